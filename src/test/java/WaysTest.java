/** Part 3 of the terms, promises 16 to 24, 34 and 38: ways, reach, parts, joins, rounds, guards, trails, the chase. */
public final class WaysTest {
    private static final Check CHECK = new Check("WaysTest");
    private static final String RING =
        "beach 3 by 3;hut 1 1;walker a at 0 0 stride 30;walker b at 2 0 stride 33;walker c at 2 2 stride 40;";
    private static final String WALLED =
        "beach 3 by 2;hut 1 0;hut 1 1;walker a at 0 0 stride 30;walker b at 2 0 stride 33;walker c at 0 1 stride 40;";
    private static final int[] NO_WALKERS = {-1, 3, 5, Integer.MAX_VALUE, Integer.MIN_VALUE};
    private static final int[] NO_CELLS = {-1, 9, 25, 32, Integer.MAX_VALUE, Integer.MIN_VALUE};
    private static final int[] NO_PARTS = {-1, 2, Integer.MAX_VALUE, Integer.MIN_VALUE};

    public static void main(String[] args) {
        nothingDone();
        anyOrder();
        way();
        wayNone();
        ways();
        sly();
        slyNone();
        reach();
        parts();
        join();
        rounds();
        guard();
        guardNone();
        trail();
        catches();
        lies();
        CHECK.finish();
    }

    private static void lie(SandNights x, int... cells) {
        CHECK.due("about(13)", x.about(13), cells.length);
        for (int i = 0; i < cells.length; i++) {
            CHECK.due("lies(" + i + ")", x.lies(i), cells[i]);
        }
        CHECK.due("lies(" + cells.length + ")", x.lies(cells.length), -1);
    }

    private static String wholeWithoutLies(SandNights x) {
        return Check.whole(x).replaceAll("about 13: [0-9]+\n|lies [0-9]+: -?[0-9]+\n", "");
    }

    private static void nothingDone() {
        CHECK.by("Terms", "(By what is now; nothing is done.");
        SandNights x = Check.told(RING + "wind 20;tide minute = 3;");
        x.step(0, 1);
        x.step(1, 1);
        x.minute();
        x.step(2, 7);
        x.undo();
        x.way(2, 0);
        String before = Check.whole(x);
        x.ways(0, 8);
        x.reach(0, 3);
        x.parts();
        x.join(0, 2, 0);
        x.rounds(0, 9);
        x.guard(0, 8, 1);
        x.trail(1);
        x.catches(0, 1);
        CHECK.same("ways, reach, parts, join, rounds, guard, trail, catches", x, before);
        x.first(0, 1);
        x.alone(0);
        x.crowd(0);
        x.remains(3, 0);
        x.cover(2, 1);
        x.orders();
        x.may(30);
        x.matched(30, 33, 0, 0);
        x.lasts(4, 0);
        x.tides(60);
        x.boldest();
        x.ask(0, 0);
        CHECK.same("first to ask", x, before);
        before = wholeWithoutLies(x);
        x.way(0, 8);
        x.sly(0, 8, 0);
        CHECK.due("way and sly", wholeWithoutLies(x).equals(before), true);
        CHECK.due("redo()", x.redo(), true);
    }

    private static int asked(SandNights x, int question) {
        return switch (question) {
            case 0 -> x.way(0, 0);
            case 1 -> x.ways(1, 15);
            case 2 -> x.sly(0, 12, 1);
            case 3 -> x.rounds(0, 6);
            case 4 -> x.catches(0, 1);
            case 5 -> x.catches(1, 2);
            case 6 -> x.guard(0, 15, 1);
            case 7 -> x.join(0, 1, 1);
            case 8 -> x.paths(0);
            default -> x.ways(0, 5);
        };
    }

    private static void anyOrder() {
        CHECK.by("Terms", "nothing is done.");
        SandNights x = Check.told("walker a at 3 0 stride 10;walker b at 0 0 stride 10;walker c at 1 0 stride 10;");
        int[] due = {3, 20, 6, 251, -1, 1, 18, 1, 351568, 3};
        for (int first = 0; first < due.length; first++) {
            for (int second = 0; second < due.length; second++) {
                CHECK.due("question " + first, asked(x, first), due[first]);
                CHECK.due("question " + second + " behind " + first, asked(x, second), due[second]);
            }
        }
    }

    private static void way() {
        CHECK.by("Terms", "the fewest steps; of like ones the first (CELL by CELL, by numbers)");
        SandNights x = Check.told(RING);
        CHECK.due("way(0, 8)", x.way(0, 8), 4);
        lie(x, 0, 1, 2, 5, 8);
        CHECK.due("way(2, 0)", x.way(2, 0), 4);
        lie(x, 8, 5, 2, 1, 0);
        CHECK.due("the fewest ahead of the first", x.way(2, 3), 3);
        lie(x, 8, 7, 6, 3);
        SandNights open = Check.told("walker a at 1 0 stride 10;");
        CHECK.due("through CELL 0", open.way(0, 4), 2);
        lie(open, 1, 0, 4);
        SandNights wide = Check.told("beach 5 by 5;walker a at 0 0 stride 10;walker b at 4 4 stride 10;");
        CHECK.due("over all", wide.way(0, 24), 8);
        lie(wide, 0, 1, 2, 3, 4, 9, 14, 19, 24);
        CHECK.due("back", wide.way(1, 0), 8);
        lie(wide, 24, 19, 14, 9, 4, 3, 2, 1, 0);
        SandNights bent = Check.told("beach 5 by 5;hut 1 0;hut 1 1;hut 1 2;hut 1 3;walker a at 0 0 stride 10;");
        CHECK.due("round a wall", bent.way(0, 2), 10);
        lie(bent, 0, 5, 10, 15, 20, 21, 22, 17, 12, 7, 2);
        CHECK.by("16", "how many steps (0: he is there)");
        CHECK.due("way(1, 2)", x.way(1, 2), 0);
        lie(x, 2);
        CHECK.due("one step", x.way(1, 5), 1);
        lie(x, 2, 5);
        x.step(1, 5);
        CHECK.due("from where he is now", x.way(1, 5), 0);
        lie(x, 5);
    }

    private static void wayNone() {
        CHECK.by("16", "NONE if there is none, or one can't be");
        SandNights x = Check.told(RING);
        SandNights walled = Check.told(WALLED);
        CHECK.due("no way", walled.way(0, 2), -1);
        CHECK.due("to a hut", walled.way(0, 1), -1);
        CHECK.due("to a hut", x.way(0, 4), -1);
        for (int walker : NO_WALKERS) {
            CHECK.due("way(" + walker + ", 0)", x.way(walker, 0), -1);
        }
        for (int cell : NO_CELLS) {
            CHECK.due("way(0, " + cell + ")", x.way(0, cell), -1);
        }
        CHECK.due("nobody", new SandNights().way(0, 0), -1);
        CHECK.by("16", "CELLS lie there then, from his own on (behind NONE: nothing)");
        lie(x);
        x.way(0, 1);
        lie(x, 0, 1);
        x.way(0, 4);
        lie(x);
        x.way(0, 1);
        x.way(3, 1);
        lie(x);
        x.way(0, 1);
        x.way(0, 9);
        lie(x);
        walled.way(0, 3);
        lie(walled, 0, 3);
        walled.way(0, 5);
        lie(walled);
    }

    private static void ways() {
        CHECK.by("17", "How many WAYS of a WALKER to a CELL have so few steps (1 if he is there)");
        SandNights x = Check.told(RING);
        CHECK.due("ways(0, 0)", x.ways(0, 0), 1);
        CHECK.due("ways(0, 1)", x.ways(0, 1), 1);
        CHECK.due("ways(0, 8)", x.ways(0, 8), 2);
        CHECK.due("ways(0, 5)", x.ways(0, 5), 1);
        SandNights wide = Check.told("beach 5 by 5;walker a at 0 0 stride 10;walker b at 4 4 stride 10;");
        CHECK.due("over all", wide.ways(0, 24), 70);
        CHECK.due("back", wide.ways(1, 0), 70);
        CHECK.due("ways(0, 12)", wide.ways(0, 12), 6);
        CHECK.due("ways(0, 4)", wide.ways(0, 4), 1);
        CHECK.due("ways(1, 5)", wide.ways(1, 5), 35);
        wide.way(0, 2);
        wide.ways(0, 24);
        CHECK.due("nothing is laid", wide.about(13), 3);
        CHECK.by("17", "NONE if there is none, or one can't be");
        SandNights walled = Check.told(WALLED);
        CHECK.due("no way", walled.ways(0, 2), -1);
        CHECK.due("to a hut", walled.ways(0, 1), -1);
        CHECK.due("to a hut", x.ways(0, 4), -1);
        for (int walker : NO_WALKERS) {
            CHECK.due("ways(" + walker + ", 0)", x.ways(walker, 0), -1);
        }
        for (int cell : NO_CELLS) {
            CHECK.due("ways(0, " + cell + ")", x.ways(0, cell), -1);
        }
    }

    private static void slyIs(SandNights x, int walker, int fresh, int... cells) {
        int goal = cells[cells.length - 1];
        CHECK.due("sly(" + walker + ", " + goal + ", 1)", x.sly(walker, goal, 1), cells.length - 1);
        lie(x, cells);
        CHECK.due("sly(" + walker + ", " + goal + ", 0)", x.sly(walker, goal, 0), fresh);
        lie(x, cells);
    }

    private static void sly() {
        CHECK.by("Terms",
            "fewest of the CELLS that he comes to have another TOP than another WALKER (none, or himself)");
        SandNights x = Check.told(RING);
        slyIs(x, 0, 3, 0, 1, 2, 5);
        x.step(2, 7);
        x.step(2, 6);
        x.step(2, 3);
        slyIs(x, 0, 2, 0, 3, 6, 7, 8, 5);
        x.step(2, 6);
        x.step(2, 7);
        x.step(2, 8);
        slyIs(x, 0, 1, 0, 3, 6, 7, 8, 5);
        slyIs(x, 2, 4, 8, 5, 2, 1, 0);
        x.step(0, 3);
        x.step(0, 0);
        slyIs(x, 1, 1, 2, 1, 0);
        slyIs(x, 0, 2, 0, 3, 6, 7, 8, 5);
        SandNights goal = Check.told(RING);
        goal.step(1, 2);
        slyIs(goal, 0, 1, 0, 1, 2);
        slyIs(goal, 2, 1, 8, 5, 2);
        SandNights gap = Check.told(RING + "tide column = 1;");
        gap.step(1, 2);
        gap.step(1, 1);
        gap.step(1, 0);
        gap.minute();
        slyIs(gap, 0, 1, 0, 1, 2);
        CHECK.by("Terms", "that he comes to");
        SandNights start = Check.told(RING);
        start.step(0, 0);
        start.step(1, 5);
        slyIs(start, 0, 0, 0);
        slyIs(start, 0, 2, 0, 1, 2, 5);
        start.step(1, 2);
        slyIs(start, 0, 1, 0, 1, 2, 5);
        CHECK.by("Terms", "of like ones the fewest steps; of like ones the first");
        SandNights like = Check.told(RING);
        like.step(2, 7);
        like.step(2, 6);
        like.step(1, 1);
        like.step(1, 2);
        slyIs(like, 0, 1, 0, 1, 2, 5);
        like.step(2, 3);
        slyIs(like, 0, 1, 0, 1, 2, 5);
        slyIs(Check.told(RING), 0, 4, 0, 1, 2, 5, 8);
        SandNights even = Check.told(RING);
        even.step(2, 7);
        even.step(1, 1);
        slyIs(even, 0, 3, 0, 1, 2, 5, 8);
        CHECK.by("18", "what 0: of how many CELLS, 1: how many steps");
        slyIs(x, 1, 0, 2);
        CHECK.due("sly(0, 5, 0)", x.sly(0, 5, 0), 2);
        CHECK.due("sly(0, 5, 1)", x.sly(0, 5, 1), 5);
    }

    private static void slyNone() {
        CHECK.by("18", "NONE if there is none, or one can't be");
        SandNights x = Check.told(RING);
        SandNights walled = Check.told(WALLED);
        for (int what = 0; what < 2; what++) {
            CHECK.due("no way", walled.sly(0, 2, what), -1);
            CHECK.due("to a hut", x.sly(0, 4, what), -1);
            for (int walker : NO_WALKERS) {
                CHECK.due("sly(" + walker + ", 0, " + what + ")", x.sly(walker, 0, what), -1);
            }
            for (int cell : NO_CELLS) {
                CHECK.due("sly(0, " + cell + ", " + what + ")", x.sly(0, cell, what), -1);
            }
        }
        for (int what : NO_PARTS) {
            CHECK.due("sly(0, 5, " + what + ")", x.sly(0, 5, what), -1);
        }
        CHECK.by("18", "CELLS lie there then, from his own on (behind NONE: nothing)");
        x.sly(0, 1, 0);
        lie(x, 0, 1);
        x.sly(0, 4, 0);
        lie(x);
        x.sly(0, 1, 1);
        lie(x, 0, 1);
        x.sly(0, 1, 2);
        lie(x);
        x.way(0, 1);
        x.sly(3, 1, 0);
        lie(x);
        x.way(0, 1);
        x.sly(0, 9, 0);
        lie(x);
        walled.way(0, 3);
        walled.sly(0, 2, 0);
        lie(walled);
    }

    private static void reach() {
        CHECK.by("19", "CELLS that a WALKER comes to by n steps at the most (0 .. 25), as bits");
        SandNights x = Check.told(RING);
        CHECK.due("reach(0, 0)", x.reach(0, 0), 1);
        CHECK.due("reach(0, 1)", x.reach(0, 1), 1 + 2 + 8);
        CHECK.due("reach(0, 2)", x.reach(0, 2), 1 + 2 + 8 + 4 + 64);
        CHECK.due("reach(0, 3)", x.reach(0, 3), 511 - 16 - 256);
        CHECK.due("reach(0, 4)", x.reach(0, 4), 511 - 16);
        CHECK.due("reach(1, 1)", x.reach(1, 1), 4 + 2 + 32);
        CHECK.due("reach(0, 25)", x.reach(0, 25), 511 - 16);
        SandNights walled = Check.told(WALLED);
        CHECK.due("walled", walled.reach(0, 25), 9);
        SandNights wide = Check.told("beach 5 by 5;walker a at 0 0 stride 10;");
        CHECK.due("seven steps", wide.reach(0, 7), (1 << 24) - 1);
        CHECK.due("eight steps", wide.reach(0, 8), (1 << 25) - 1);
        SandNights bent = Check.told("beach 5 by 5;hut 1 0;hut 1 1;hut 1 2;hut 1 3;walker a at 0 0 stride 10;");
        CHECK.due("bent, 11 steps", bent.reach(0, 11) >> 4 & 1, 0);
        CHECK.due("bent, 12 steps", bent.reach(0, 12) >> 4 & 1, 1);
        CHECK.by("19", "NONE if one can't be");
        for (int n : new int[] {-1, 26, Integer.MAX_VALUE, Integer.MIN_VALUE}) {
            CHECK.due("reach(0, " + n + ")", x.reach(0, n), -1);
        }
        for (int walker : NO_WALKERS) {
            CHECK.due("reach(" + walker + ", 1)", x.reach(walker, 1), -1);
        }
    }

    private static void parts() {
        CHECK.by("20", "In how many parts CELLS without huts lie that no steps join.");
        CHECK.due("no huts", new SandNights().parts(), 1);
        CHECK.due("a ring", Check.told(RING).parts(), 1);
        CHECK.due("walled", Check.told(WALLED).parts(), 2);
        CHECK.due("all huts", Check.told("beach 2 by 2;hut 0 0;hut 0 1;hut 1 0;hut 1 1;").parts(), 0);
        CHECK.due("one left", Check.told("beach 2 by 2;hut 0 0;hut 0 1;hut 1 0;").parts(), 1);
        CHECK.due("two across", Check.told("beach 2 by 2;hut 0 0;hut 1 1;").parts(), 2);
        CHECK.due("corners", Check.told("beach 5 by 5;hut 1 0;hut 0 1;hut 3 4;hut 4 3;").parts(), 3);
        CHECK.due("a middle", Check.told("beach 3 by 3;hut 1 0;hut 0 1;hut 2 1;hut 1 2;").parts(), 5);
        CHECK.due("row by row", Check.told("beach 4 by 2;hut 1 0;hut 1 1;hut 3 0;").parts(), 2);
    }

    private static void join() {
        CHECK.by("Terms", "the fewest minutes by which both can be in one CELL, each with a step, or staying, in"
            + " each; of like ones the first CELL");
        SandNights x = Check.told(RING);
        CHECK.due("join(0, 1, 0)", x.join(0, 1, 0), 1);
        CHECK.due("join(1, 0, 1)", x.join(1, 0, 1), 1);
        CHECK.due("join(0, 2, 0)", x.join(0, 2, 0), 2);
        CHECK.due("join(0, 2, 1)", x.join(0, 2, 1), 2);
        x.step(0, 1);
        CHECK.due("one stays: the lower CELL", x.join(0, 1, 1), 1);
        CHECK.due("one stays", x.join(0, 1, 0), 1);
        x.step(1, 5);
        x.step(1, 8);
        CHECK.due("three steps, two minutes", x.join(0, 1, 0), 2);
        CHECK.due("where either is, too", x.join(1, 0, 1), 2);
        SandNights wide = Check.told("beach 5 by 5;walker a at 0 0 stride 10;walker b at 4 4 stride 10;");
        CHECK.due("farthest", wide.join(0, 1, 0), 4);
        CHECK.due("farthest", wide.join(0, 1, 1), 4);
        SandNights bent = Check.told("beach 5 by 5;hut 1 0;hut 1 1;hut 1 2;hut 1 3;walker a at 0 0 stride 10;"
            + "walker b at 2 0 stride 10;");
        CHECK.due("round a wall", bent.join(0, 1, 0), 5);
        CHECK.due("round a wall", bent.join(0, 1, 1), 21);
        CHECK.by("21", "JOIN what 0: how many minutes, 1: the CELL");
        SandNights one = Check.told("walker a at 3 3 stride 10;walker b at 3 3 stride 10;");
        CHECK.due("in one CELL", one.join(0, 1, 0), 0);
        CHECK.due("in one CELL", one.join(0, 1, 1), 15);
        CHECK.by("21", "NONE if they can't, or one can't be (one twice, too)");
        SandNights walled = Check.told(WALLED);
        for (int what = 0; what < 2; what++) {
            CHECK.due("they can't", walled.join(0, 1, what), -1);
            for (int walker = 0; walker < 3; walker++) {
                CHECK.due("one twice", x.join(walker, walker, what), -1);
                for (int other : NO_WALKERS) {
                    CHECK.due("join(" + walker + ", " + other + ", " + what + ")", x.join(walker, other, what), -1);
                    CHECK.due("join(" + other + ", " + walker + ", " + what + ")", x.join(other, walker, what), -1);
                }
            }
        }
        for (int what : NO_PARTS) {
            CHECK.due("join(0, 1, " + what + ")", x.join(0, 1, what), -1);
        }
    }

    private static void rounds() {
        CHECK.by("Terms", "ways of a WALKER of n steps (staying, too) that end where he is");
        SandNights x = Check.told(RING);
        int[] due = {1, 1, 3, 7, 19, 51, 141, 393, 1109, 3157};
        for (int n = 0; n < due.length; n++) {
            CHECK.due("rounds(0, " + n + ")", x.rounds(0, n), due[n]);
        }
        CHECK.by("22", "ROUNDS (n 0 .. 9): how many; NONE if one can't be");
        SandNights walled = Check.told(WALLED);
        CHECK.due("two CELLS, nine steps", walled.rounds(0, 9), 256);
        SandNights shut = Check.told("beach 2 by 2;hut 1 0;hut 0 1;walker a at 0 0 stride 10;");
        CHECK.due("shut in", shut.rounds(0, 9), 1);
        CHECK.due("shut in", shut.rounds(0, 0), 1);
        for (int n : new int[] {-1, 10, Integer.MAX_VALUE, Integer.MIN_VALUE}) {
            CHECK.due("rounds(0, " + n + ")", x.rounds(0, n), -1);
        }
        for (int walker : NO_WALKERS) {
            CHECK.due("rounds(" + walker + ", 1)", x.rounds(walker, 1), -1);
        }
    }

    private static void guardIs(SandNights x, int cell, int other, int... guards) {
        int bits = 0;
        for (int guard : guards) {
            bits |= 1 << guard;
        }
        CHECK.due("guard(" + cell + ", " + other + ", 0)", x.guard(cell, other, 0), guards.length);
        CHECK.due("guard(" + cell + ", " + other + ", 1)", x.guard(cell, other, 1), bits);
        CHECK.due("guard(" + other + ", " + cell + ", 0)", x.guard(other, cell, 0), guards.length);
        CHECK.due("guard(" + other + ", " + cell + ", 1)", x.guard(other, cell, 1), bits);
    }

    private static void guard() {
        CHECK.by("Terms", "the fewest other CELLS without huts (3 at most) to stand on");
        SandNights wide = Check.told("beach 5 by 5;");
        guardIs(Check.told(WALLED), 0, 2);
        guardIs(Check.told("beach 3 by 2;hut 1 0;"), 0, 2, 3);
        guardIs(Check.told("beach 3 by 2;"), 0, 2, 1, 3);
        guardIs(wide, 2, 18, 1, 3, 7);
        guardIs(wide, 24, 12, 19, 23);
        CHECK.by("Terms",
            "so that no steps lead from the one to the other one without these; of like ones the least set as bits");
        SandNights x = Check.told(RING);
        guardIs(x, 0, 8, 1, 3);
        guardIs(x, 8, 1, 0, 2);
        guardIs(x, 3, 5, 0, 6);
        guardIs(Check.told("beach 5 by 2;hut 1 0;hut 3 0;"), 0, 4, 5);
        guardIs(Check.told("beach 5 by 2;hut 1 1;hut 3 1;"), 0, 4, 1);
        guardIs(Check.told("beach 2 by 5;"), 0, 8, 1, 2);
    }

    private static void guardNone() {
        CHECK.by("23", "GUARD what 0: how many, 1: which, as bits");
        SandNights x = Check.told(RING);
        CHECK.due("guard(0, 8, 0)", x.guard(0, 8, 0), 2);
        CHECK.due("guard(0, 8, 1)", x.guard(0, 8, 1), 10);
        CHECK.by("23", "NONE if 3 are not enough, both are one, one has a hut, or one can't be");
        SandNights wide = Check.told("beach 5 by 5;");
        for (int what = 0; what < 2; what++) {
            CHECK.due("four are needed", wide.guard(6, 18, what), -1);
            CHECK.due("BESIDE one another", x.guard(0, 1, what), -1);
            CHECK.due("BESIDE one another", x.guard(0, 3, what), -1);
            CHECK.due("both one", x.guard(0, 0, what), -1);
            CHECK.due("a hut", x.guard(0, 4, what), -1);
            CHECK.due("a hut", x.guard(4, 0, what), -1);
            CHECK.due("a hut twice", x.guard(4, 4, what), -1);
            for (int cell : NO_CELLS) {
                CHECK.due("guard(0, " + cell + ", " + what + ")", x.guard(0, cell, what), -1);
                CHECK.due("guard(" + cell + ", 0, " + what + ")", x.guard(cell, 0, what), -1);
                CHECK.due("guard(8, " + cell + ", " + what + ")", x.guard(8, cell, what), -1);
                CHECK.due("guard(" + cell + ", 8, " + what + ")", x.guard(cell, 8, what), -1);
                CHECK.due("guard(" + cell + ", " + cell + ", " + what + ")", x.guard(cell, cell, what), -1);
            }
        }
        for (int what : NO_PARTS) {
            CHECK.due("guard(0, 8, " + what + ")", x.guard(0, 8, what), -1);
        }
    }

    private static void trail() {
        CHECK.by("Terms", "FRESH of a WALKER: CELLS whose TOP he is.");
        SandNights fresh = Check.told(RING + "tide minute = 1 and row = 0;");
        fresh.step(0, 3);
        fresh.step(0, 0);
        CHECK.due("both", fresh.walker(0, 5), 9);
        fresh.minute();
        CHECK.due("what the tide left", fresh.walker(0, 5), 8);
        CHECK.due("trail(0)", fresh.trail(0), 1);
        CHECK.due("another one's", fresh.walker(1, 5), 0);
        CHECK.due("trail(1)", fresh.trail(1), 0);
        CHECK.by("24",
            "In how many parts the FRESH prints of a WALKER lie (of one part are those BESIDE one another, and so on)");
        SandNights x = Check.told("beach 4 by 4;walker a at 0 0 stride 30;walker b at 3 3 stride 30;");
        CHECK.due("trail(0)", x.trail(0), 0);
        int[] round = {0, 1, 2, 3, 7, 11};
        for (int cell : round) {
            x.step(0, cell);
            CHECK.due("one part", x.trail(0), 1);
        }
        x.step(1, 11);
        x.step(1, 7);
        CHECK.due("one part still", x.trail(0), 1);
        x.step(1, 3);
        x.step(1, 2);
        x.step(1, 6);
        x.step(0, 7);
        CHECK.due("two parts", x.trail(0), 2);
        CHECK.due("the other one's", x.trail(1), 2);
        x.step(1, 5);
        x.step(1, 1);
        CHECK.due("two parts", x.trail(0), 2);
        CHECK.due("not across corners", x.trail(1), 2);
        SandNights ends = Check.told("beach 3 by 2;walker a at 2 0 stride 10;walker b at 1 0 stride 10;");
        for (int cell : new int[] {2, 1, 0, 3}) {
            ends.step(0, cell);
        }
        ends.step(1, 1);
        ends.step(1, 0);
        CHECK.due("a row's end and the next one's start", ends.trail(0), 2);
        CHECK.by("24", "NONE if there is none such");
        for (int walker : new int[] {-1, 2, 5, Integer.MAX_VALUE, Integer.MIN_VALUE}) {
            CHECK.due("trail(" + walker + ")", x.trail(walker), -1);
        }
    }

    private static void catches() {
        CHECK.by("Terms", "by how many of his own steps (0: both are in one; whoever comes to the other one)");
        SandNights x = Check.told(RING);
        x.step(0, 1);
        CHECK.due("beside", x.catches(0, 1), 1);
        x.step(0, 2);
        CHECK.due("in one CELL", x.catches(0, 1), 0);
        CHECK.due("in one CELL", x.catches(1, 0), 0);
        // A way of five cells: 0 1 2, then down the right side to 5 and 8.
        SandNights bent = Check.told("beach 3 by 3;hut 0 1;hut 1 1;hut 0 2;hut 1 2;"
            + "walker a at 1 0 stride 10;walker b at 2 1 stride 10;walker c at 0 0 stride 10;"
            + "walker d at 2 2 stride 10;");
        CHECK.due("down to the end", bent.catches(0, 1), 3);
        CHECK.due("the other way", bent.catches(1, 0), 3);
        CHECK.due("from the end", bent.catches(2, 1), 4);
        CHECK.due("from end to end", bent.catches(2, 3), 4);
        CHECK.due("beside at the end", bent.catches(0, 2), 1);
        CHECK.by("Terms", "two WALKERS step by turns (staying, too), the first one first");
        CHECK.due("who is far from an end", bent.catches(2, 1), 4);
        CHECK.due("who is in an end", bent.catches(1, 2), 3);
        CHECK.due("ahead of his turn", bent.catches(3, 1), 1);
        CHECK.by("Terms", "he wants to come to the other one's CELL as soon as can be, the other one as late");
        // A T: the thief in its foot has no way out.
        SandNights tee = Check.told("beach 3 by 2;hut 0 1;hut 2 1;walker a at 0 0 stride 10;walker b at 1 1 stride 10;"
            + "walker c at 2 0 stride 10;");
        CHECK.due("in the foot of a T", tee.catches(0, 1), 2);
        CHECK.due("from arm to arm", tee.catches(0, 2), 2);
        SandNights wide = Check.told("beach 5 by 5;walker a at 4 4 stride 10;walker b at 3 4 stride 10;"
            + "walker c at 4 2 stride 10;");
        CHECK.due("beside on a wide beach", wide.catches(0, 1), 1);
        SandNights four = Check.told("beach 2 by 2;walker a at 0 0 stride 10;walker b at 1 0 stride 10;");
        CHECK.due("beside among four CELLS", four.catches(0, 1), 1);
        CHECK.by("34", "CATCH; NONE if never, or one can't be (one twice, too)");
        CHECK.due("on a wide beach", wide.catches(0, 2), -1);
        SandNights ring = Check.told(RING);
        CHECK.due("round a ring", ring.catches(0, 1), -1);
        CHECK.due("round a ring", ring.catches(1, 0), -1);
        CHECK.due("round four CELLS",
            Check.told("beach 2 by 2;walker a at 0 0 stride 10;walker b at 1 1 stride 10;").catches(0, 1), -1);
        SandNights walled = Check.told(WALLED);
        CHECK.due("walled", walled.catches(0, 1), -1);
        CHECK.due("beside", walled.catches(0, 2), 1);
        for (int walker = 0; walker < 3; walker++) {
            CHECK.due("one twice", ring.catches(walker, walker), -1);
            for (int other : NO_WALKERS) {
                CHECK.due("catches(" + walker + ", " + other + ")", ring.catches(walker, other), -1);
                CHECK.due("catches(" + other + ", " + walker + ")", ring.catches(other, walker), -1);
            }
        }
    }

    private static void lies() {
        CHECK.by("38", "The i-th number of what lies there; NONE if there is none such.");
        SandNights x = Check.told("beach 5 by 5;hut 1 0;hut 1 1;hut 1 2;hut 1 3;walker a at 0 0 stride 10;");
        CHECK.due("lies(0) at first", x.lies(0), -1);
        x.way(0, 4);
        int[] due = {0, 5, 10, 15, 20, 21, 22, 17, 12, 7, 2, 3, 4};
        for (int i = 0; i < due.length; i++) {
            CHECK.due("lies(" + i + ")", x.lies(i), due[i]);
        }
        for (int i : new int[] {-1, 13, 24, 25, 26, Integer.MAX_VALUE, Integer.MIN_VALUE}) {
            CHECK.due("lies(" + i + ")", x.lies(i), -1);
        }
        x.way(0, 5);
        CHECK.due("a shorter one", x.lies(1), 5);
        CHECK.due("nothing of the longer one", x.lies(2), -1);
        x.step(0, 5);
        x.minute();
        x.night();
        x.undo();
        CHECK.due("acts leave it", x.lies(1), 5);
    }
}
