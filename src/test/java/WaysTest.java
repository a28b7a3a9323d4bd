/** Promises 16 to 24, 34 and 38: ways, reach, parts, joins, rounds, guards, trails, the chase, what lies there. */
public final class WaysTest {
    private static final Check CHECK = new Check("WaysTest");
    private static final String RING =
        "beach 3 by 3;hut 1 1;walker a at 0 0 stride 30;walker b at 2 0 stride 33;walker c at 2 2 stride 40;";
    private static final String WALLED =
        "beach 3 by 2;hut 1 0;hut 1 1;walker a at 0 0 stride 30;walker b at 2 0 stride 33;walker c at 0 1 stride 40;";

    public static void main(String[] args) {
        ways();
        sly();
        reachAndParts();
        joins();
        rounds();
        guards();
        trails();
        chase();
        CHECK.finish();
    }

    private static void lie(SandNights x, int... cells) {
        CHECK.due("about(13)", x.about(13), cells.length);
        for (int i = 0; i < cells.length; i++) {
            CHECK.due("lies(" + i + ")", x.lies(i), cells[i]);
        }
        CHECK.due("lies(" + cells.length + ")", x.lies(cells.length), -1);
        CHECK.due("lies(-1)", x.lies(-1), -1);
    }

    private static void ways() {
        SandNights x = Check.told(RING);
        lie(x);
        CHECK.due("way(0, 8)", x.way(0, 8), 4);
        lie(x, 0, 1, 2, 5, 8);
        CHECK.due("ways lays nothing", x.ways(0, 8), 2);
        lie(x, 0, 1, 2, 5, 8);
        CHECK.due("way(2, 3)", x.way(2, 3), 3);
        lie(x, 8, 7, 6, 3);
        CHECK.due("way(1, 2)", x.way(1, 2), 0);
        lie(x, 2);
        CHECK.due("way to a hut", x.way(0, 4), -1);
        lie(x);
        x.way(0, 1);
        CHECK.due("way of nobody", x.way(3, 4), -1);
        lie(x);
        x.way(0, 1);
        CHECK.due("way to no cell", x.way(0, 9), -1);
        lie(x);
        CHECK.due("way to no cell", x.way(0, -1), -1);
        CHECK.due("ways(1, 2)", x.ways(1, 2), 1);
        CHECK.due("ways to a hut", x.ways(0, 4), -1);
        CHECK.due("ways of nobody", x.ways(-1, 0), -1);
        CHECK.due("ways to no cell", x.ways(0, 9), -1);
        SandNights wide = Check.told("beach 5 by 5;walker a at 0 0 stride 10;walker b at 4 4 stride 10;");
        CHECK.due("ways over all", wide.ways(0, 24), 70);
        CHECK.due("ways back", wide.ways(1, 0), 70);
        CHECK.due("way back", wide.way(1, 0), 8);
        lie(wide, 24, 19, 14, 9, 4, 3, 2, 1, 0);
        SandNights walled = Check.told(WALLED);
        CHECK.due("no way", walled.way(0, 2), -1);
        CHECK.due("no ways", walled.ways(0, 2), -1);
        CHECK.due("no sly way", walled.sly(0, 2, 0), -1);
    }

    private static void sly() {
        SandNights x = Check.told(RING);
        CHECK.due("sly(0, 5, 0)", x.sly(0, 5, 0), 3);
        lie(x, 0, 1, 2, 5);
        CHECK.due("sly(0, 0, 0)", x.sly(0, 0, 0), 0);
        CHECK.due("sly(0, 0, 1)", x.sly(0, 0, 1), 0);
        lie(x, 0);
        x.step(2, 7);
        x.step(2, 6);
        x.step(2, 3);
        CHECK.due("the long way over another one's", x.sly(0, 5, 0), 2);
        CHECK.due("sly(0, 5, 1)", x.sly(0, 5, 1), 5);
        lie(x, 0, 3, 6, 7, 8, 5);
        CHECK.due("own prints spare nothing", x.sly(2, 8, 0), 3);
        CHECK.due("sly(2, 8, 1)", x.sly(2, 8, 1), 3);
        lie(x, 3, 6, 7, 8);
        x.step(1, 1);
        x.step(1, 2);
        CHECK.due("of like ones the fewest steps", x.sly(0, 5, 0), 1);
        CHECK.due("sly(0, 5, 1)", x.sly(0, 5, 1), 3);
        lie(x, 0, 1, 2, 5);
        CHECK.due("sly with another what", x.sly(0, 5, 2), -1);
        lie(x);
        x.sly(0, 5, 0);
        CHECK.due("sly to a hut", x.sly(0, 4, 0), -1);
        lie(x);
        CHECK.due("sly of nobody", x.sly(3, 0, 0), -1);
        CHECK.due("sly to no cell", x.sly(0, 9, 0), -1);
        CHECK.due("sly to no cell", x.sly(0, -1, 1), -1);
    }

    private static void reachAndParts() {
        SandNights x = Check.told(RING);
        CHECK.due("reach(0, 0)", x.reach(0, 0), 1);
        CHECK.due("reach(0, 2)", x.reach(0, 2), 1 + 2 + 8 + 4 + 64);
        CHECK.due("reach(1, 1)", x.reach(1, 1), 4 + 2 + 32);
        CHECK.due("reach(0, 25)", x.reach(0, 25), 511 - 16);
        CHECK.due("reach(0, 26)", x.reach(0, 26), -1);
        CHECK.due("reach(0, -1)", x.reach(0, -1), -1);
        CHECK.due("reach(3, 1)", x.reach(3, 1), -1);
        CHECK.due("parts()", x.parts(), 1);
        SandNights walled = Check.told(WALLED);
        CHECK.due("reach(0, 9)", walled.reach(0, 9), 9);
        CHECK.due("parts()", walled.parts(), 2);
        CHECK.due("all huts", Check.told("beach 2 by 2;hut 0 0;hut 0 1;hut 1 0;hut 1 1;").parts(), 0);
        CHECK.due("corners", Check.told("beach 5 by 5;hut 1 0;hut 0 1;hut 3 4;hut 4 3;").parts(), 3);
    }

    private static void joins() {
        SandNights x = Check.told(RING);
        CHECK.due("join(0, 1, 0)", x.join(0, 1, 0), 1);
        CHECK.due("join(1, 0, 1)", x.join(1, 0, 1), 1);
        CHECK.due("join(0, 2, 0)", x.join(0, 2, 0), 2);
        CHECK.due("join(0, 2, 1)", x.join(0, 2, 1), 2);
        x.step(0, 1);
        CHECK.due("one beside: the lower cell", x.join(0, 1, 1), 1);
        CHECK.due("one beside", x.join(0, 1, 0), 1);
        x.step(0, 2);
        CHECK.due("in one cell", x.join(0, 1, 0), 0);
        CHECK.due("in one cell", x.join(0, 1, 1), 2);
        CHECK.due("one twice", x.join(1, 1, 0), -1);
        CHECK.due("nobody", x.join(0, 3, 0), -1);
        CHECK.due("another what", x.join(0, 1, 2), -1);
        SandNights walled = Check.told(WALLED);
        CHECK.due("they can't", walled.join(0, 1, 0), -1);
        CHECK.due("they can't", walled.join(0, 1, 1), -1);
        CHECK.due("they can", walled.join(0, 2, 1), 0);
    }

    private static void rounds() {
        SandNights x = Check.told(RING);
        int[] due = {1, 1, 3, 7, 19};
        for (int n = 0; n < due.length; n++) {
            CHECK.due("rounds(0, " + n + ")", x.rounds(0, n), due[n]);
        }
        CHECK.due("rounds(0, 10)", x.rounds(0, 10), -1);
        CHECK.due("rounds(0, -1)", x.rounds(0, -1), -1);
        CHECK.due("rounds(3, 1)", x.rounds(3, 1), -1);
        SandNights walled = Check.told(WALLED);
        CHECK.due("two cells, nine steps", walled.rounds(0, 9), 256);
    }

    private static void guards() {
        SandNights x = Check.told(RING);
        CHECK.due("guard(0, 8, 0)", x.guard(0, 8, 0), 2);
        CHECK.due("guard(0, 8, 1)", x.guard(0, 8, 1), 2 + 8);
        CHECK.due("guard(8, 0, 1)", x.guard(8, 0, 1), 2 + 8);
        CHECK.due("the lesser bits, not the cells nearest", x.guard(8, 1, 1), 1 + 4);
        CHECK.due("beside", x.guard(0, 1, 0), -1);
        CHECK.due("both one", x.guard(0, 0, 0), -1);
        CHECK.due("a hut", x.guard(0, 4, 0), -1);
        CHECK.due("a hut", x.guard(4, 0, 0), -1);
        CHECK.due("no cell", x.guard(0, 9, 0), -1);
        CHECK.due("no cell", x.guard(-1, 0, 0), -1);
        CHECK.due("no cell", x.guard(9, 0, 0), -1);
        CHECK.due("both no cell", x.guard(9, 9, 0), -1);
        CHECK.due("another what", x.guard(0, 8, 2), -1);
        SandNights walled = Check.told(WALLED);
        CHECK.due("parted already", walled.guard(0, 2, 0), 0);
        CHECK.due("parted already", walled.guard(0, 2, 1), 0);
        SandNights wide = Check.told("beach 5 by 5;");
        CHECK.due("four are needed", wide.guard(6, 18, 0), -1);
        CHECK.due("three", wide.guard(2, 18, 0), 3);
        CHECK.due("three", wide.guard(2, 18, 1), 2 + 8 + 128);
        CHECK.due("a corner", wide.guard(24, 12, 1), 1 << 19 | 1 << 23);
    }

    private static void trails() {
        SandNights x = Check.told("beach 4 by 4;walker a at 0 0 stride 30;walker b at 3 3 stride 30;");
        CHECK.due("trail(0)", x.trail(0), 0);
        int[] round = {0, 1, 2, 3, 7, 11};
        for (int cell : round) {
            x.step(0, cell);
        }
        CHECK.due("one part", x.trail(0), 1);
        x.step(1, 11);
        x.step(1, 7);
        CHECK.due("one part still", x.trail(0), 1);
        x.step(1, 3);
        x.step(1, 2);
        x.step(1, 6);
        x.step(0, 7);
        CHECK.due("two parts", x.trail(0), 2);
        CHECK.due("the other one's", x.trail(1), 2);
        x.step(1, 5);
        x.step(1, 1);
        CHECK.due("two parts", x.trail(0), 2);
        CHECK.due("not across corners", x.trail(1), 2);
        CHECK.due("nobody", x.trail(2), -1);
        CHECK.due("nobody", x.trail(-1), -1);
    }

    private static void chase() {
        SandNights x = Check.told(RING);
        CHECK.due("round a ring never", x.catches(0, 1), -1);
        CHECK.due("one twice", x.catches(0, 0), -1);
        CHECK.due("nobody", x.catches(0, 3), -1);
        CHECK.due("nobody", x.catches(-1, 0), -1);
        x.step(0, 1);
        CHECK.due("beside", x.catches(0, 1), 1);
        x.step(0, 2);
        CHECK.due("in one cell", x.catches(0, 1), 0);
        SandNights walled = Check.told(WALLED);
        CHECK.due("never", walled.catches(0, 1), -1);
        CHECK.due("beside", walled.catches(0, 2), 1);
        // A way of five cells: 0 1 2, then down the right side to 5 and 8.
        SandNights bent = Check.told("beach 3 by 3;hut 0 1;hut 1 1;hut 0 2;hut 1 2;"
            + "walker a at 1 0 stride 10;walker b at 2 1 stride 10;walker c at 0 0 stride 10;");
        CHECK.due("down to the end", bent.catches(0, 1), 3);
        CHECK.due("the other way", bent.catches(1, 0), 3);
        CHECK.due("from the end", bent.catches(2, 1), 4);
    }
}
