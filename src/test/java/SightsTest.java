/** Part 4 of the terms, promises 39 to 45: sights told and untold, the time, paths, what is sure, what to ask. */
public final class SightsTest {
    private static final Check CHECK = new Check("SightsTest");
    private static final int[] NO_MINUTES = {-1, 8, 59, Integer.MAX_VALUE, Integer.MIN_VALUE};
    /** The ways over four cells round: from each of four cells seven times one of three. */
    private static final int ALL = 4 * 2187;

    public static void main(String[] args) {
        limits();
        seen();
        inRow();
        untell();
        later();
        paths();
        twoTimes();
        huts();
        sure();
        ask();
        CHECK.finish();
    }

    private static void limits() {
        CHECK.by("Terms", "SIGHTS, 30 at most");
        SandNights x = Check.told("beach 3 by 2;hut 1 0;");
        for (int i = 0; i < 30; i++) {
            int number = i % 2 == 0 ? x.seen(i % 8, 5, false) : x.inRow(i % 8, 1, true);
            CHECK.due("its number", number, i);
            CHECK.due("about(9)", x.about(9), i + 1);
        }
        String before = Check.whole(x);
        CHECK.due("one too many", x.seen(0, 0, true), -1);
        CHECK.due("one too many", x.inRow(0, 0, true), -1);
        CHECK.same("one too many", x, before);
        CHECK.due("untell(29)", x.untell(29), true);
        CHECK.due("UNTOLD ones are SIGHTS, too", x.seen(0, 0, true), -1);
        CHECK.due("about(9)", x.about(9), 30);
        x.beach();
        CHECK.due("another BEACH", x.seen(0, 0, true), 0);
    }

    private static void seen() {
        CHECK.by("39", "A SIGHT that at a minute (0 .. 7) he was in a CELL, or was not: its number");
        for (int minute = 0; minute < 8; minute++) {
            SandNights x = Check.told("beach 2 by 2;");
            CHECK.due("seen(" + minute + ", 2, true)", x.seen(minute, 2, true), 0);
            CHECK.due("he was", x.paths(0), ALL / 4);
            CHECK.due("sure", x.sure(minute, 0), 2);
            x.untell(0);
            CHECK.due("seen(" + minute + ", 2, false)", x.seen(minute, 2, false), 1);
            CHECK.due("he was not", x.paths(0), ALL / 4 * 3);
        }
        CHECK.by("39", "NONE, doing nothing, if one can't be, or there are 30");
        SandNights x = Check.told("beach 3 by 2;");
        x.seen(0, 0, true);
        String before = Check.whole(x);
        for (int minute : NO_MINUTES) {
            CHECK.due("seen(" + minute + ", 0, true)", x.seen(minute, 0, true), -1);
            CHECK.due("seen(" + minute + ", 0, false)", x.seen(minute, 0, false), -1);
        }
        for (int cell : new int[] {-1, 6, 25, 32, Integer.MAX_VALUE, Integer.MIN_VALUE}) {
            CHECK.due("seen(0, " + cell + ", true)", x.seen(0, cell, true), -1);
            CHECK.due("seen(0, " + cell + ", false)", x.seen(0, cell, false), -1);
        }
        CHECK.same("SIGHTS that can't be", x, before);
        CHECK.due("the last CELL", x.seen(0, 5, false), 1);
        CHECK.due("a new object has 16 CELLS", new SandNights().seen(7, 15, true), 0);
    }

    private static void inRow() {
        CHECK.by("40", "A SIGHT that at a minute he was in a row, or was not: its number");
        for (int minute = 0; minute < 8; minute++) {
            SandNights x = Check.told("beach 2 by 2;");
            CHECK.due("inRow(" + minute + ", 1, true)", x.inRow(minute, 1, true), 0);
            CHECK.due("he was", x.paths(0), ALL / 2);
            x.seen(minute, 3, false);
            CHECK.due("the one CELL that is left", x.sure(minute, 0), 2);
            x.untell(0);
            CHECK.due("inRow(" + minute + ", 1, false)", x.inRow(minute, 1, false), 2);
            CHECK.due("he was not", x.paths(0), ALL / 2);
        }
        SandNights wide = Check.told("beach 3 by 5;");
        for (int minute = 0; minute < 5; minute++) {
            CHECK.due("inRow(" + minute + ", " + minute + ", true)", wide.inRow(minute, minute, true), minute);
        }
        CHECK.due("down in one column", wide.sure(4, 0), -2);
        wide.seen(2, 7, true);
        for (int minute = 0; minute < 5; minute++) {
            CHECK.due("down in one column", wide.sure(minute, 0), 3 * minute + 1);
        }
        CHECK.by("40", "NONE likewise");
        SandNights x = Check.told("beach 5 by 3;");
        String before = Check.whole(x);
        for (int minute : NO_MINUTES) {
            CHECK.due("inRow(" + minute + ", 0, true)", x.inRow(minute, 0, true), -1);
            CHECK.due("inRow(" + minute + ", 0, false)", x.inRow(minute, 0, false), -1);
        }
        for (int row : new int[] {-1, 3, 4, 32, Integer.MAX_VALUE, Integer.MIN_VALUE}) {
            CHECK.due("inRow(0, " + row + ", true)", x.inRow(0, row, true), -1);
            CHECK.due("inRow(0, " + row + ", false)", x.inRow(0, row, false), -1);
        }
        CHECK.same("SIGHTS that can't be", x, before);
        CHECK.due("the last row", x.inRow(7, 2, true), 0);
    }

    private static void untell() {
        CHECK.by("41", "It is UNTOLD: true; false if it is so already, or there is none such.");
        SandNights x = Check.told("beach 2 by 2;");
        CHECK.due("untell(0) of none", x.untell(0), false);
        x.seen(0, 0, true);
        x.seen(0, 1, true);
        CHECK.due("paths(0)", x.paths(0), 0);
        String before = Check.whole(x);
        for (int sight : new int[] {-1, 2, 30, Integer.MAX_VALUE, Integer.MIN_VALUE}) {
            CHECK.due("untell(" + sight + ")", x.untell(sight), false);
        }
        CHECK.same("untell of none", x, before);
        CHECK.due("untell(1)", x.untell(1), true);
        CHECK.due("the other one is left", x.sure(0, 0), 0);
        CHECK.due("untell(1)", x.untell(1), false);
        x.later(5);
        CHECK.due("untell(1) later", x.untell(1), false);
        CHECK.due("it was UNTOLD at its time", x.paths(0), ALL / 4);
        CHECK.due("untell(0)", x.untell(0), true);
        CHECK.due("about(9)", x.about(9), 2);
    }

    private static void later() {
        CHECK.by("Terms", "are TOLD at a TIME (0 at first, goes on)");
        SandNights x = new SandNights();
        CHECK.due("0 at first", x.about(10), 0);
        CHECK.by("42", "So much later (0 .. 1000): the TIME");
        CHECK.due("later(0)", x.later(0), 0);
        CHECK.due("later(1)", x.later(1), 1);
        CHECK.due("later(1000)", x.later(1000), 1001);
        CHECK.due("about(10)", x.about(10), 1001);
        CHECK.by("42", "NONE, doing nothing, for another number, or if it would be above 100,000");
        for (int by : new int[] {-1, 1001, Integer.MAX_VALUE, Integer.MIN_VALUE}) {
            CHECK.due("later(" + by + ")", x.later(by), -1);
            CHECK.due("about(10)", x.about(10), 1001);
        }
        for (int i = 2; i < 100; i++) {
            x.later(1000);
        }
        CHECK.due("about(10)", x.about(10), 99001);
        CHECK.due("later(1000)", x.later(1000), -1);
        CHECK.due("later(999)", x.later(999), 100000);
        CHECK.due("later(1)", x.later(1), -1);
        CHECK.due("later(0)", x.later(0), 100000);
        CHECK.due("about(10)", x.about(10), 100000);
        x.seen(0, 0, true);
        CHECK.due("not known yet", x.paths(99999), 351568);
        CHECK.due("known", x.paths(100000) < 351568, true);
        x.beach();
        CHECK.due("the TIME stays", x.about(10), 100000);
    }

    private static void paths() {
        CHECK.by("Terms", "of somebody who went over the beach for eight minutes, 0 .. 7, a step each (or he stayed)");
        CHECK.due("four CELLS round", Check.told("beach 2 by 2;").paths(0), ALL);
        CHECK.due("16 CELLS", new SandNights().paths(0), 351568);
        CHECK.due("one CELL", Check.told("beach 2 by 2;hut 0 0;hut 0 1;hut 1 0;").paths(0), 1);
        CHECK.due("two CELLS", Check.told("beach 2 by 2;hut 0 0;hut 0 1;").paths(0), 256);
        SandNights x = Check.told("beach 5 by 2;");
        x.seen(0, 0, true);
        x.seen(4, 4, true);
        CHECK.due("a step each", x.sure(2, 0), 2);
        x.seen(3, 4, true);
        CHECK.due("too far", x.paths(0), 0);
        x.untell(2);
        x.seen(3, 3, true);
        x.seen(7, 4, true);
        CHECK.due("staying", x.paths(0) > 0, true);
        CHECK.by("Terms", "PATHS: ways that he can have gone by which all that count are so.");
        SandNights some = Check.told("beach 2 by 2;");
        some.seen(0, 0, true);
        some.inRow(1, 1, true);
        CHECK.due("one of three steps", some.paths(0), ALL / 4 / 3);
        some.seen(7, 2, false);
        some.seen(7, 3, false);
        some.inRow(7, 1, true);
        CHECK.due("no CELL is left", some.paths(0), 0);
        CHECK.by("43", "PATHS: how many.");
        SandNights all = Check.told("beach 2 by 2;");
        for (int minute = 0; minute < 8; minute++) {
            all.seen(minute, 1, true);
        }
        CHECK.due("one", all.paths(0), 1);
        for (int minute = 0; minute < 8; minute++) {
            CHECK.due("SURE by one", all.sure(minute, 0), 1);
        }
        all.seen(0, 1, false);
        CHECK.due("none", all.paths(0), 0);
    }

    private static void twoTimes() {
        CHECK.by("Terms", "those count that were TOLD at k or before, not UNTOLD at k or before");
        SandNights x = Check.told("beach 2 by 2;");
        x.later(5);
        x.seen(0, 0, true);
        CHECK.due("not known yet", x.paths(4), ALL);
        CHECK.due("known", x.paths(5), ALL / 4);
        CHECK.due("known later", x.paths(6), ALL / 4);
        CHECK.due("known for ever", x.paths(Integer.MAX_VALUE), ALL / 4);
        CHECK.due("ahead of all", x.paths(Integer.MIN_VALUE), ALL);
        CHECK.due("ahead of all", x.paths(-1), ALL);
        x.later(5);
        x.untell(0);
        CHECK.due("known till then", x.paths(9), ALL / 4);
        CHECK.due("UNTOLD", x.paths(10), ALL);
        CHECK.due("UNTOLD for ever", x.paths(Integer.MAX_VALUE), ALL);
        CHECK.due("not known then either", x.paths(4), ALL);
        CHECK.by("Terms", "UNTOLD at a later one or the same");
        x.seen(7, 3, false);
        x.inRow(3, 1, true);
        CHECK.due("paths(9)", x.paths(9), ALL / 4);
        x.untell(2);
        CHECK.due("TOLD and UNTOLD at one TIME", x.paths(10), ALL / 4 * 3);
        CHECK.due("paths(9)", x.paths(9), ALL / 4);
        x.inRow(3, 0, false);
        x.inRow(3, 0, true);
        CHECK.due("both can't be", x.paths(10), 0);
        SandNights zero = Check.told("beach 2 by 2;");
        zero.seen(0, 0, true);
        CHECK.due("TOLD at 0", zero.paths(0), ALL / 4);
        CHECK.due("paths(-1)", zero.paths(-1), ALL);
        zero.untell(0);
        CHECK.due("UNTOLD at 0", zero.paths(0), ALL);
    }

    private static void huts() {
        CHECK.by("Terms", "never in a hut");
        SandNights x = Check.told("beach 2 by 2;hut 0 0;");
        CHECK.due("three CELLS", x.paths(0), 1393);
        CHECK.due("a SIGHT of a hut", x.seen(2, 0, false), 0);
        CHECK.due("it tells nothing", x.paths(0), 1393);
        x.inRow(0, 0, true);
        CHECK.due("the row's other CELL", x.sure(0, 0), 1);
        x.seen(2, 0, true);
        CHECK.due("he was in no hut", x.paths(0), 0);
        SandNights shut = Check.told("beach 3 by 2;hut 1 0;hut 1 1;");
        shut.seen(0, 0, true);
        shut.seen(7, 2, true);
        CHECK.due("not through huts", shut.paths(0), 0);
        SandNights all = Check.told("beach 2 by 2;hut 0 0;hut 0 1;hut 1 0;hut 1 1;");
        CHECK.due("nowhere to go", all.paths(0), 0);
        CHECK.due("nowhere to go", all.sure(0, 0), -1);
        CHECK.due("nowhere to go", all.ask(0, 0), -1);
    }

    private static void sure() {
        CHECK.by("Terms", "SURE of a minute: the CELL, if it is the same in all.");
        SandNights by = Check.told("beach 2 by 2;");
        by.seen(3, 0, false);
        by.seen(3, 1, false);
        CHECK.due("two CELLS are left", by.sure(3, 0), -2);
        by.seen(3, 3, false);
        CHECK.due("by what he was not", by.sure(3, 0), 2);
        CHECK.by("44", "SURE: the CELL; -2 if it is not the same in all");
        SandNights x = Check.told("beach 5 by 5;");
        CHECK.due("sure(0, 0)", x.sure(0, 0), -2);
        x.seen(0, 0, true);
        x.later(1);
        x.seen(4, 4, true);
        CHECK.due("by one SIGHT", x.sure(2, 0), -2);
        for (int minute = 0; minute < 8; minute++) {
            CHECK.due("sure(" + minute + ", 1)", x.sure(minute, 1), minute < 5 ? minute : -2);
        }
        x.later(1);
        x.seen(7, 24, true);
        CHECK.due("the highest CELL", x.sure(7, 2), -1);
        x.untell(2);
        SandNights last = Check.told("beach 5 by 5;");
        last.seen(7, 24, true);
        CHECK.due("the highest CELL", last.sure(7, 0), 24);
        CHECK.due("ahead of it", last.sure(6, 0), -2);
        CHECK.by("44", "NONE if there are no PATHS, or there is no such minute");
        x.seen(3, 3, false);
        for (int minute = 0; minute < 8; minute++) {
            CHECK.due("no PATHS", x.sure(minute, 2), -1);
        }
        CHECK.due("known earlier", x.sure(3, 1), 3);
        for (int minute : NO_MINUTES) {
            CHECK.due("sure(" + minute + ", 0)", x.sure(minute, 0), -1);
            CHECK.due("sure(" + minute + ", 2)", x.sure(minute, 2), -1);
        }
    }

    private static void ask() {
        CHECK.by("Terms",
            "the minute of which to know the CELL would leave the fewest of these at the most; of like ones the first");
        SandNights x = Check.told("beach 2 by 2;");
        CHECK.due("all alike", x.ask(0, 0), 0);
        for (int minute : new int[] {0, 1, 2, 4, 5, 6}) {
            x.seen(minute, 0, true);
        }
        CHECK.due("minute 3 or 7", x.ask(0, 0), 3);
        x.seen(3, 0, true);
        CHECK.due("minute 7", x.ask(0, 0), 7);
        for (int asked = 0; asked < 8; asked++) {
            SandNights one = Check.told("beach 2 by 2;");
            for (int minute = 0; minute < 8; minute++) {
                if (minute != asked) {
                    one.seen(minute, 0, true);
                }
            }
            CHECK.due("the one minute that is not known", one.ask(0, 0), asked);
            CHECK.due("what is left", one.ask(1, 0), 1);
        }
        CHECK.by("45", "what 0: the minute, 1: how many are left at the most");
        CHECK.due("ask(1, 0)", x.ask(1, 0), 1);
        x.untell(6);
        CHECK.due("three ways each", x.ask(1, 0), 3);
        CHECK.due("a fourth of all", Check.told("beach 2 by 2;").ask(1, 0), ALL / 4);
        SandNights one = Check.told("beach 2 by 2;hut 0 0;hut 0 1;hut 1 0;");
        CHECK.due("one PATH", one.ask(1, 0), 1);
        CHECK.due("one PATH", one.ask(0, 0), 0);
        // Three cells in a row: the ends are left by one way more than the middle one.
        SandNights row = Check.told("beach 2 by 2;hut 0 0;");
        row.seen(0, 3, true);
        CHECK.due("not minute 0", row.ask(0, 0) > 0, true);
        CHECK.by("45", "NONE if there are no PATHS, or for another what");
        for (int what : new int[] {-1, 2, Integer.MAX_VALUE, Integer.MIN_VALUE}) {
            CHECK.due("ask(" + what + ", 0)", x.ask(what, 0), -1);
        }
        x.later(1);
        x.seen(7, 3, true);
        x.seen(6, 3, true);
        CHECK.due("no PATHS", x.ask(0, 1), -1);
        CHECK.due("no PATHS", x.ask(1, 1), -1);
        CHECK.due("as known earlier", x.ask(1, 0), 3);
    }
}
