/** Promises 1 to 5: a new object, the tape, the text with its faults. */
public final class TextTest {
    private static final Check CHECK = new Check("TextTest");

    public static void main(String[] args) {
        newObject();
        tape();
        beachAnew();
        toldOften();
        tokens();
        places();
        twice();
        numbers();
        formulas();
        CHECK.finish();
    }

    private static void newObject() {
        SandNights x = new SandNights();
        int[] about = {0, 4, 4, 0, 0, 0, 0, 0, 0, 0, 0, 0, 0, 0, -1};
        for (int what = 0; what < about.length; what++) {
            CHECK.due("about(" + what + ")", x.about(what), about[what]);
        }
        CHECK.due("about(-1)", x.about(-1), -1);
        CHECK.due("fault(0)", x.fault(0), 0);
        CHECK.due("fault(1)", x.fault(1), -1);
        CHECK.due("fault(2)", x.fault(2), -1);
        CHECK.due("fault(-1)", x.fault(-1), -1);
        CHECK.due("sand(15, 0)", x.sand(15, 0), -1);
        CHECK.due("sand(16, 0)", x.sand(16, 0), -2);
        CHECK.due("beach()", x.beach(), 0);
    }

    private static void tape() {
        SandNights x = new SandNights();
        CHECK.due("end(0)", x.end(0), 0);
        CHECK.due("end(1)", x.end(1), -1);
        CHECK.due("end(-1)", x.end(-1), -1);
        for (int i = 1; i <= 80; i++) {
            CHECK.due("feed", x.feed(-1, 0, 0, 0, 0), 20 * i);
        }
        CHECK.due("feed beyond", x.feed(0, 0, 0, 0, 0), -1);
        CHECK.due("about(11)", x.about(11), 1600);
        CHECK.due("end(1601)", x.end(1601), -1);
        CHECK.due("end(1581)", x.end(1581), 1581);
        CHECK.due("feed a byte beyond", x.feed(0, 0, 0, 0, 0), -1);
        CHECK.due("end(1580)", x.end(1580), 1580);
        CHECK.due("feed to the last byte", x.feed(0, 0, 0, 0, 0), 1600);
        CHECK.due("end(0)", x.end(0), 0);
        // "wind 1;" with the bytes in order, the highest of each number first.
        CHECK.due("feed", x.feed(0x77696e64, 0x20313b20, 0x20202020, 0x20202020, 0x20202020), 20);
        CHECK.due("beach()", x.beach(), 0);
        CHECK.due("lasts(1, 0)", x.lasts(1, 0), 99);
        CHECK.due("feed a negative number", x.feed(-1, -1, -1, -1, -1), 20);
        CHECK.due("beach()", x.beach(), -1);
        CHECK.due("fault(0)", x.fault(0), 1);
        CHECK.due("fault(1)", x.fault(1), 0);
    }

    private static void beachAnew() {
        SandNights x = Check.told("beach 3 by 2;walker a at 0 0 stride 10;draw 5;wind 50;");
        x.later(7);
        x.step(0, 1);
        x.minute();
        x.image(0);
        x.way(0, 0);
        x.seen(0, 0, true);
        CHECK.due("acts", x.about(7), 2);
        CHECK.due("a fault", Check.tell(x, "beach 2 by 9;"), -1);
        CHECK.due("fault(0)", x.fault(0), 4);
        CHECK.due("fault(1)", x.fault(1), 11);
        int[] stays = {1, 3, 2, 0, 1, 0, 5, 2, 0, 1, 7, 13, 0, 2};
        for (int what = 0; what < stays.length; what++) {
            CHECK.due("behind a fault about(" + what + ")", x.about(what), stays[what]);
        }
        CHECK.due("the top stays", x.sand(1, 0), 0);
        x.end(0);
        CHECK.due("another beach", Check.tell(x, "beach 2 by 3;walker b at 1 2 stride 10;walker c at 1 2 stride 11;"), 2);
        CHECK.due("fault(0)", x.fault(0), 0);
        CHECK.due("fault(1)", x.fault(1), -1);
        int[] anew = {2, 2, 3, 0, 0, 0, 0, 0, 0, 0, 7, 0, 0, 0};
        for (int what = 0; what < anew.length; what++) {
            CHECK.due("anew about(" + what + ")", x.about(what), anew[what]);
        }
        CHECK.due("prints()", x.prints(), 0);
        CHECK.due("back(0)", x.back(0), -1);
        CHECK.due("undo()", x.undo(), false);
        CHECK.due("redo()", x.redo(), false);
        CHECK.due("lies(0)", x.lies(0), -1);
        CHECK.due("untell(0)", x.untell(0), false);
        CHECK.due("an empty text", x.beach(), 0);
        CHECK.due("about(1)", x.about(1), 4);
    }

    /** Nothing of a beach, nor of a text with a fault, is left in the next one. */
    private static void toldOften() {
        String rich = "beach 5 by 2;hut 0 0;hut 1 0;hut 2 0;hut 3 0;walker a at 4 1 stride 10 slip 9;tide 1 + 1;"
            + "wind 50;draw 500;";
        SandNights x = new SandNights();
        for (int i = 0; i < 4; i++) {
            CHECK.due("the rich beach", Check.tell(x, rich), 1);
            CHECK.due("a fault", Check.tell(x, rich + "#"), -1);
            x.end(0);
            x.step(0, 9);
            x.minute();
            x.step(0, 9);
            CHECK.due("a poor beach", Check.tell(x, "walker b at 0 0 stride 20;walker a at 0 0 stride 20;"), 2);
            int[] about = {2, 4, 4, 0, 0, 0, 0, 0, 0, 0, 0, 0, 0, 0};
            for (int what = 0; what < about.length; what++) {
                CHECK.due("poor about(" + what + ")", x.about(what), about[what]);
            }
            CHECK.due("no tide", x.sand(0, 5), 0);
            CHECK.due("no wind", x.lasts(1, 0), 1);
            CHECK.due("no slip", x.walker(0, 3), 0);
            CHECK.due("no hut", x.sand(3, 4), 0);
            x.minute();
            CHECK.due("met anew", x.met(0, 1), 1);
            x.night();
            CHECK.due("an empty beach", x.beach(), 0);
            CHECK.due("no hut where a walker was", Check.tell(x, "hut 0 0;hut 3 1;"), 0);
        }
    }

    private static void fine(String text, int walkers) {
        SandNights x = new SandNights();
        CHECK.due("beach() of " + text, Check.tell(x, text), walkers);
        CHECK.due("fault(0) of " + text, x.fault(0), 0);
        CHECK.due("fault(1) of " + text, x.fault(1), -1);
    }

    /** The sign @ stands ahead of the place of the fault and is no part of the text. */
    private static void faulty(String marked, int fault) {
        SandNights x = new SandNights();
        int place = marked.indexOf('@');
        String text = marked.substring(0, place) + marked.substring(place + 1);
        CHECK.due("beach() of " + marked, Check.tell(x, text), -1);
        CHECK.due("fault(0) of " + marked, x.fault(0), fault);
        CHECK.due("fault(1) of " + marked, x.fault(1), place);
    }

    private static void tokens() {
        fine("", 0);
        fine(" \n ", 0);
        fine("beach 2 by 5;", 0);
        fine("beach2 by 5;hut0 0;", 0);
        fine("\nhut 0\n0 ; wind 0003;", 0);
        fine("walker abcdefgh at 0 0 stride 10;", 1);
        fine("walker azyzxz at 0 0 stride 10;", 1);
        fine("walker one at 0 0 stride 10;walker sum at 0 0 stride 10;walker e at 0 0 stride 10;", 3);
        faulty("@Beach 2 by 2;", 1);
        faulty("@\tbeach 2 by 2;", 1);
        faulty("wind 1;@\r", 1);
        faulty("wind 1;@#", 1);
        faulty("wind 1@, ;", 1);
        faulty("wind @" + (char) 233 + ";", 1);
        faulty("wind @" + (char) 0 + ";", 1);
        faulty("@abcdefghi 1;", 1);
        faulty("walker @abcdefghi at 0 0 stride 10;", 1);
        faulty("wind @00001;", 1);
        faulty("beach @3by 3;", 1);
        faulty("tide @1and 2;", 1);
        faulty("@12a", 1);
        faulty("hut 1 @-1;", 2);
    }

    private static void places() {
        faulty("@;", 2);
        faulty("@7;", 2);
        faulty("@by 3;", 2);
        faulty("@sand 1;", 2);
        faulty("wind 1;@;", 2);
        faulty("beach 3 by 3@", 2);
        faulty("beach 3 by 3  @", 2);
        faulty("beach 3 @3;", 2);
        faulty("beach @;", 2);
        faulty("beach 3 by 3;@beach 3 by 3;", 2);
        faulty("wind 1;@beach 3 by 3", 2);
        faulty("hut 0 0;hut 1 0;hut 2 0;hut 3 0;@hut 0 1;", 2);
        faulty("hut 0 0;hut 1 0;hut 2 0;hut 3 0;@hut 0 0;", 2);
        faulty("wind 1;@wind 2;", 2);
        faulty("draw 1;@draw 2;", 2);
        faulty("tide 1;@tide #", 2);
        String w = "walker a at 0 0 stride 10;walker b at 0 0 stride 10;walker c at 0 0 stride 10;";
        fine(w + "walker d at 0 0 stride 10;walker f at 0 0 stride 10;", 5);
        faulty(w + "walker d at 0 0 stride 10;walker f at 0 0 stride 10;@walker a at 9 0 stride 10;", 2);
        for (String word : "beach by hut walker at stride slip tide wind draw or and not row column minute night trod"
            .split(" ")) {
            faulty("walker @" + word + " at 0 0 stride 10;", 2);
        }
        faulty("walker @7 at 0 0 stride 10;", 2);
        faulty("walker a @0 0 stride 10;", 2);
        faulty("walker a at 0 0 @slip 1;", 2);
        faulty("walker a at 0 0 stride 10 @stride 10;", 2);
        faulty("walker a at 0 0 stride 10 slip @;", 2);
        faulty("walker a at 0 0 stride 10 slip 1 @slip 1;", 2);
    }

    private static void twice() {
        faulty("walker a at 0 0 stride 10;walker @a at 9 0 stride 10;", 3);
        faulty("hut 1 2;hut 1 @2;", 3);
        faulty("walker a at 2 1 stride 10;hut 2 @1;", 3);
        faulty("hut 2 1;walker a at 2 @1 stride 9;", 3);
        fine("hut 2 1;walker a at 1 2 stride 10;hut 1 1;", 1);
    }

    private static void numbers() {
        faulty("beach @1 by 2;", 4);
        faulty("beach @6 by 2;", 4);
        faulty("beach 2 by @1;", 4);
        faulty("beach 2 by @6;", 4);
        fine("beach 2 by 5;hut 1 4;", 0);
        faulty("beach 2 by 5;hut @2 4;", 4);
        faulty("beach 2 by 5;hut 1 @5;", 4);
        fine("hut 3 3;", 0);
        faulty("hut @4 3;", 4);
        faulty("hut 3 @4;", 4);
        faulty("walker a at @4 3 stride 10;", 4);
        faulty("walker a at 3 @4 stride 10;", 4);
        fine("walker a at 3 3 stride 10 slip 0;walker b at 3 3 stride 99 slip 9;", 2);
        faulty("walker a at 3 3 stride @9;", 4);
        faulty("walker a at 3 3 stride @100;", 4);
        faulty("walker a at 3 3 stride 10 slip @10;", 4);
        fine("wind 100;draw 999;", 0);
        faulty("wind @101;", 4);
        faulty("draw @1000;", 4);
    }

    private static String times(String piece, int n) {
        return piece.repeat(n);
    }

    private static void formulas() {
        fine("tide 9999;", 0);
        fine("tide not not row < 2 and column + 1 * 2 > trod or night = minute;", 0);
        faulty("tide @;", 2);
        faulty("tide@", 2);
        faulty("tide 1 @2;", 2);
        faulty("tide 1 < 2 @< 3;", 2);
        faulty("tide 1 = 2 @> 3;", 2);
        faulty("tide 1 + @not 2;", 2);
        faulty("tide 1 < @not 2;", 2);
        faulty("tide @- 2;", 2);
        faulty("tide @a;", 2);
        faulty("tide @)", 2);
        faulty("tide (1@;", 2);
        faulty("tide (1)@);", 2);
        faulty("tide (@);", 2);
        faulty("tide 1 and @or 2;", 2);
        fine("tide " + times("(", 7) + "1" + times(")", 7) + ";", 0);
        faulty("tide " + times("(", 7) + "@(1" + times(")", 8) + ";", 2);
        fine("tide " + times("not ", 7) + "1;", 0);
        faulty("tide " + times("not ", 7) + "@not 1;", 2);
        fine("tide not (not (not (not 1)));", 0);
        faulty("tide not (not (not (not @(1))));", 2);
        faulty("tide ((((((not @not 1))))));", 2);
        fine("tide ((((((not 1)))))) and ((((((not 1))))));", 0);
        fine("tide 1" + times("+1", 29) + ";", 0);
        faulty("tide 1" + times("+1", 29) + "+@1;", 2);
        faulty("tide 1" + times("+1", 29) + "+@#;", 1);
        fine("tide (1" + times("+1", 28) + ");", 0);
        faulty("tide (1" + times("+1", 28) + "+@1);", 2);
        faulty("tide 1" + times("+1", 29) + "+@(1);", 2);
        SandNights x = Check.told("tide (row + 2) * ((3));");
        CHECK.due("units", x.about(12), 6);
        x = Check.told("tide " + "not not not not not not not 1" + times(" and not not not not not not not 1", 29) + ";");
        CHECK.due("units", x.about(12), 30);
        CHECK.due("sand(0, 5)", x.sand(0, 5), 0);
    }
}
