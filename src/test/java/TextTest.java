/** The terms of the text, and promises 1 to 5: a new object, the tape, the text with its faults. */
public final class TextTest {
    private static final Check CHECK = new Check("TextTest");
    private static final String WORDS =
        "beach by hut walker at stride slip tide wind draw or and not row column minute night trod";
    private static final String[] LINES = {"beach 3 by 3 ;", "hut 0 1 ;", "walker a at 0 1 stride 10 ;",
        "walker a at 0 1 stride 10 slip 3 ;", "tide row ;", "wind 3 ;", "draw 3 ;"};
    private static final String FIVE = "walker a at 0 0 stride 10;walker b at 0 0 stride 11;walker c at 1 0 stride 12;"
        + "walker d at 0 1 stride 13;walker f at 3 3 stride 14;";
    private static final String FOUR = "hut 0 2;hut 1 2;hut 2 2;hut 3 2;";
    private static final String RICH = "beach 5 by 2;hut 0 0;hut 1 0;hut 2 0;hut 3 0;walker a at 4 1 stride 10 slip 9;"
        + "tide 1 + 1;wind 30;draw 500;";

    public static void main(String[] args) {
        size();
        lines();
        bytes();
        tokens();
        names();
        sizes();
        huts();
        walkers();
        onceEach();
        grammar();
        units();
        depth();
        firstFault();
        endOfText();
        faultOne();
        leastFault();
        faultTwo();
        faultThree();
        faultFour();
        newObject();
        feed();
        end();
        beach();
        stays();
        toldOften();
        fault();
        CHECK.finish();
    }

    private static void fine(String text, int walkers) {
        SandNights x = new SandNights();
        CHECK.due("beach() of " + text, Check.tell(x, text), walkers);
        CHECK.due("fault(0) of " + text, x.fault(0), 0);
        CHECK.due("fault(1) of " + text, x.fault(1), -1);
    }

    private static void faulty(String text, int fault, int place) {
        SandNights x = new SandNights();
        CHECK.due("beach() of " + text, Check.tell(x, text), -1);
        CHECK.due("fault(0) of " + text, x.fault(0), fault);
        CHECK.due("fault(1) of " + text, x.fault(1), place);
    }

    /** The sign @ stands ahead of the place of the fault and is no part of the text. */
    private static void faulty(String marked, int fault) {
        int place = marked.indexOf('@');
        faulty(marked.substring(0, place) + marked.substring(place + 1), fault, place);
    }

    private static void size() {
        CHECK.by("Terms", "a text of at most 1,600 bytes (empty at first)");
        SandNights x = new SandNights();
        CHECK.due("about(11)", x.about(11), 0);
        Check.feed(x, "draw 5;" + " ".repeat(1586) + "wind 7;");
        CHECK.due("about(11)", x.about(11), 1600);
        CHECK.due("beach() of 1,600 bytes", x.beach(), 0);
        CHECK.due("its first bytes", x.about(6), 5);
        CHECK.due("its last bytes", x.lasts(1, 0), 93);
        faulty(" ".repeat(1599) + "#", 1, 1599);
        faulty(" ".repeat(1594) + "wind 7", 2, 1600);
        CHECK.by("Terms", "beach = {line}.");
        fine("", 0);
        for (String line : LINES) {
            fine(line, line.startsWith("walker") ? 1 : 0);
        }
        fine(" \n ", 0);
        fine("wind 1;", 0);
        fine("wind 1;draw 1;hut 0 0;hut 1 0;", 0);
    }

    private static void lines() {
        CHECK.by("Terms", "line = beach N by N ;  |  hut N N ;  |  walker NAME at N N stride N [slip N] ;  |  tide e"
            + " ;  |  wind N ;  |  draw N ;.");
        for (String line : LINES) {
            String[] tokens = line.split(" ");
            for (int out = 0; out < tokens.length; out++) {
                StringBuilder left = new StringBuilder();
                for (int i = 0; i < tokens.length; i++) {
                    left.append(i == out ? "" : tokens[i] + " ");
                }
                CHECK.due("without its token " + out + ": " + line, Check.tell(new SandNights(), left.toString()), -1);
            }
        }
    }

    private static boolean isSign(int b) {
        return ";()<>=+-*/%".indexOf(b) >= 0;
    }

    private static void bytes() {
        CHECK.by("Terms", "signs ; ( ) < > = + - * / %; blanks (32, 10)");
        for (int b = 0; b < 256; b++) {
            String one = "" + (char) b;
            boolean letter = b >= 'a' && b <= 'z';
            boolean digit = b >= '0' && b <= '9';
            if (b == 32 || b == 10) {
                fine(one, 0);
                fine("wind 1" + one + ";", 0);
            } else {
                faulty(one, letter || digit || isSign(b) ? 2 : 1, 0);
                faulty("(" + one + "#", 2, 0);
                faulty("wind 1;" + one, letter || digit || isSign(b) ? 2 : 1, 7);
            }
        }
    }

    private static void tokens() {
        CHECK.by("Terms", "words (a .. z, 8 at most)");
        fine("walker abcdefgh at 0 0 stride 10;walker z at 0 0 stride 10;walker zzzzzzzz at 0 0 stride 10;", 3);
        faulty("walker @abcdefghi at 0 0 stride 10;", 1);
        faulty("@abcdefghi 1;", 1);
        faulty("@beachbeach 3 by 3;", 1);
        faulty("wind 1;@" + "z".repeat(1000), 1);
        faulty("@Beach 2 by 2;", 1);
        faulty("@bEach 2 by 2;", 2);
        faulty("wind@Z", 1);
        CHECK.by("Terms", "N (1 to 4 digits)");
        fine("wind 1;draw 0009;tide 9999;", 0);
        faulty("wind @00001;", 1);
        faulty("tide @10000;", 1);
        faulty("wind @42949672960;", 1);
        CHECK.by("Terms", "part them or not");
        fine("beach2 by3;hut0 0;walker a at1 1 stride10 slip9;tide(row<2)and(column>1)or not(3);wind1;draw1;", 1);
        fine("\nbeach\n2 \n by 3 ; hut 0\n\n0 ; tide ( row\n< 2 )\nand\nnot 3 ;\n", 0);
        faulty("@be ach 2 by 2;", 2);
        faulty("wind 1 @0;", 2);
        CHECK.by("Terms", "each is as long as can be");
        faulty("@beachby 3;", 2);
        faulty("hut 00@;", 2);
        fine("walker hutx at 0 00 stride 10;", 1);
        fine("walker android at 0 0 stride 10;walker bytwo at 0 0 stride 10;", 2);
        CHECK.due("one N of two digits", Check.told("wind 12;").lasts(1, 0), 22);
        CHECK.by("Terms", "no letter directly behind an N");
        faulty("beach @3by 3;", 1);
        faulty("tide @1and 2;", 1);
        faulty("hut 0 @0z", 1);
        faulty("@12a", 1);
        fine("tide 1 and 2;", 0);
        fine("tide(1)and(2);", 0);
    }

    private static void names() {
        CHECK.by("Terms", "Words that stand for themselves here are no NAMES.");
        for (String word : WORDS.split(" ")) {
            faulty("walker @" + word + " at 0 0 stride 10;", 2);
            if (word.length() < 8) {
                fine("walker " + word + "s at 0 0 stride 10;", 1);
            }
            if (!word.equals("by") && !word.equals("or")) {
                fine("walker " + word.substring(1) + " at 0 0 stride 10;", 1);
            }
        }
        for (String word : "line e both one sum term unit n name b".split(" ")) {
            fine("walker " + word + " at 0 0 stride 10;", 1);
        }
    }

    private static void sizes() {
        CHECK.by("Terms", "beach (COLUMNS, ROWS: 2 .. 5 both");
        for (int columns = 0; columns < 8; columns++) {
            for (int rows = 0; rows < 8; rows++) {
                String text = "beach " + columns + " by " + rows + ";";
                if (columns < 2 || columns > 5) {
                    faulty(text, 4, 6);
                } else if (rows < 2 || rows > 5) {
                    faulty(text, 4, 11);
                } else {
                    SandNights x = Check.told(text);
                    CHECK.due("COLUMNS of " + text, x.about(1), columns);
                    CHECK.due("ROWS of " + text, x.about(2), rows);
                    CHECK.due("its last CELL", x.sand(columns * rows - 1, 0), -1);
                    CHECK.due("no CELL behind it", x.sand(columns * rows, 0), -2);
                }
            }
        }
        CHECK.by("Terms", "4 by 4 if not told");
        SandNights x = Check.told("wind 1;");
        CHECK.due("COLUMNS", x.about(1), 4);
        CHECK.due("ROWS", x.about(2), 4);
        fine("hut 3 3;", 0);
        faulty("hut @4 3;", 4);
        faulty("hut 3 @4;", 4);
        CHECK.by("Terms", "once, ahead of all others");
        faulty("beach 3 by 3;@beach 3 by 3;", 2);
        for (String line : "hut 0 0;/walker a at 0 0 stride 10;/tide 1;/wind 1;/draw 1;".split("/")) {
            faulty(line + "@beach 3 by 3;", 2);
            fine("beach 3 by 3;" + line, line.startsWith("walker") ? 1 : 0);
        }
    }

    private static void huts() {
        CHECK.by("Terms", "at most 4 huts");
        for (int huts = 0; huts <= 4; huts++) {
            SandNights x = Check.told(FOUR.substring(0, huts * 8));
            CHECK.due("huts", x.about(3), huts);
        }
        faulty(FOUR + "@hut 0 1;", 2);
        CHECK.by("Terms", "(a column, a row, from 0 on; each CELL once)");
        for (int columns = 2; columns <= 5; columns++) {
            for (int rows = 2; rows <= 5; rows++) {
                String size = "beach " + columns + " by " + rows + ";";
                for (int place = 0; place < columns * rows; place++) {
                    SandNights x = Check.told(size + "hut " + place % columns + " " + place / columns + ";");
                    CHECK.due("a hut in CELL " + place + " of " + size, x.sand(place, 4), 1);
                    CHECK.due("huts", x.about(3), 1);
                }
                faulty(size + "hut @" + columns + " 0;", 4);
                faulty(size + "hut 0 @" + rows + ";", 4);
            }
        }
        faulty("hut 1 2;hut 1 @2;", 3);
        fine("hut 1 2;hut 2 1;", 0);
    }

    private static void walkers() {
        CHECK.by("Terms", "5 WALKERS (at a column, a row, where no hut is told");
        fine(FIVE, 5);
        fine(FIVE + FOUR, 5);
        faulty(FIVE + "@walker g at 0 0 stride 10;", 2);
        faulty("hut 2 1;walker a at 2 @1 stride 10;", 3);
        fine("hut 2 1;walker a at 1 2 stride 10;", 1);
        faulty("beach 2 by 5;walker a at @2 0 stride 10;", 4);
        faulty("beach 2 by 5;walker a at 0 @5 stride 10;", 4);
        SandNights x = Check.told("beach 2 by 5;walker a at 1 4 stride 10;");
        CHECK.due("the last CELL", x.walker(0, 1), 9);
        CHECK.by("Terms", "stride 10 .. 99");
        faulty("walker a at 0 0 stride @9;", 4);
        faulty("walker a at 0 0 stride @0;", 4);
        faulty("walker a at 0 0 stride @100;", 4);
        faulty("walker a at 0 0 stride @9999;", 4);
        CHECK.due("stride 10", Check.told("walker a at 0 0 stride 10;").walker(0, 2), 10);
        CHECK.due("stride 99", Check.told("walker a at 0 0 stride 99;").walker(0, 2), 99);
        CHECK.by("Terms", "slip 0 .. 9, 0 if not told)");
        faulty("walker a at 0 0 stride 10 slip @10;", 4);
        CHECK.due("slip 0", Check.told("walker a at 0 0 stride 10 slip 0;").walker(0, 3), 0);
        CHECK.due("slip 9", Check.told("walker a at 0 0 stride 10 slip 9;").walker(0, 3), 9);
        CHECK.due("no slip", Check.told("walker a at 0 0 stride 10;").walker(0, 3), 0);
        x = Check.told("walker a at 0 0 stride 10 slip 9;walker b at 0 0 stride 10;");
        CHECK.due("no slip behind one", x.walker(1, 3), 0);
        CHECK.by("Terms", "numbered as told");
        x = Check.told("walker z at 1 0 stride 30;wind 1;walker a at 0 0 stride 20;hut 3 3;walker m at 2 0 stride 10;");
        for (int walker = 0; walker < 3; walker++) {
            CHECK.due("stride of " + walker, x.walker(walker, 2), 30 - 10 * walker);
        }
        CHECK.due("where the first was told", x.walker(0, 1), 1);
        CHECK.due("where the last was told", x.walker(2, 1), 2);
    }

    private static void onceEach() {
        CHECK.by("Terms", "wind (0 .. 100 of 100; 0)");
        CHECK.due("wind 0", Check.told("wind 0;").lasts(1, 0), 1);
        CHECK.due("wind 100", Check.told("wind 100;").lasts(1, 0), 0);
        CHECK.due("no wind", Check.told("draw 1;").lasts(1, 0), 1);
        faulty("wind @101;", 4);
        CHECK.by("Terms", "draw (0 .. 999; 0)");
        CHECK.due("draw 0", Check.told("draw 0;").about(6), 0);
        CHECK.due("draw 999", Check.told("draw 999;").about(6), 999);
        CHECK.due("no draw", Check.told("wind 1;").about(6), 0);
        faulty("draw @1000;", 4);
        CHECK.by("Terms", "once each");
        faulty("tide 1;@tide 1;", 2);
        faulty("wind 1;@wind 1;", 2);
        faulty("draw 1;@draw 1;", 2);
        faulty("tide 0;wind 0;draw 0;@wind 0;", 2);
        fine("tide 1;wind 1;draw 1;", 0);
    }

    private static void grammar() {
        CHECK.by("Terms", "one = not one | sum [(< | > | =) sum].");
        fine("tide not not row < 2 and column + 1 * 2 > trod or night = minute;", 0);
        for (String sign : "< > =".split(" ")) {
            fine("tide 1 " + sign + " 2;", 0);
            faulty("tide 1 < 2 @" + sign + " 3;", 2);
            faulty("tide @" + sign + " 3;", 2);
            faulty("tide 1 " + sign + "@;", 2);
            faulty("tide 1 " + sign + " @not 2;", 2);
            fine("tide (1 " + sign + " 2) " + sign + " 3;", 0);
        }
        faulty("tide not@;", 2);
        CHECK.by("Terms", "sum = term {(+ | -) term}.  term = unit {(* | / | %) unit}.");
        for (String sign : "+ - * / %".split(" ")) {
            fine("tide 1 " + sign + " 2 " + sign + " 3;", 0);
            faulty("tide 1 " + sign + "@;", 2);
            faulty("tide 1 " + sign + " @" + sign + " 2;", 2);
            faulty("tide @" + sign + " 2;", 2);
            faulty("tide 1 " + sign + " @not 2;", 2);
        }
        CHECK.by("Terms", "e = both {or both}.  both = one {and one}.");
        faulty("tide 1 and @or 2;", 2);
        faulty("tide 1 or@;", 2);
        faulty("tide 1 and@;", 2);
        faulty("tide @and 1;", 2);
        fine("tide 1 or not 1 and not 1 or 1;", 0);
        CHECK.by("Terms", "unit = N | row | column | minute | night | trod | ( e ).");
        faulty("tide @;", 2);
        faulty("tide@", 2);
        faulty("tide 1 @2;", 2);
        faulty("tide 1 @row;", 2);
        faulty("tide @a;", 2);
        faulty("tide @hut;", 2);
        faulty("tide @)", 2);
        faulty("tide (1@;", 2);
        faulty("tide (1)@);", 2);
        faulty("tide (@);", 2);
        faulty("tide (1 @2);", 2);
        fine("tide ((row)+(column))*(minute)-night%trod;", 0);
    }

    private static void units() {
        CHECK.by("Terms", "60 units in all, 30 in one e");
        for (int n = 1; n <= 30; n++) {
            CHECK.due("units", Check.told("tide 1" + "+1".repeat(n - 1) + ";").about(12), n);
        }
        String thirty = "tide 1" + "+1".repeat(29);
        fine("tide (1" + "+1".repeat(28) + ");", 0);
        faulty("tide (1" + "+1".repeat(28) + "+@1);", 2);
        faulty("tide (1)" + "+(1)".repeat(14) + "and@1;", 2);
        faulty("tide ((1" + "+1".repeat(13) + ")*(1" + "+1".repeat(12) + ")<@1);", 2);
        fine("tide ((1" + "+1".repeat(13) + ")*(1" + "+1".repeat(12) + "));", 0);
        CHECK.due("a unit ( e ) is one, too", Check.told("tide (row + 2) * ((3));").about(12), 6);
        CHECK.due("relations and nots are none", Check.told("tide not not 1 < 2 and not 3;").about(12), 3);
        CHECK.due("no tide", Check.told("wind 1;").about(12), 0);
        String nots = "not not not not not not not 1";
        SandNights x = Check.told("tide " + nots + (" and " + nots).repeat(29) + ";");
        CHECK.due("the longest formula", x.about(12), 30);
        CHECK.due("what comes of it", x.sand(0, 5), 0);
        CHECK.by("Terms", "a unit too many");
        for (String unit : "1 row column minute night trod (1)".split(" ")) {
            fine(thirty.substring(0, thirty.length() - (unit.startsWith("(") ? 4 : 2)) + "+" + unit + ";", 0);
            faulty(thirty + "+@" + unit + ";", 2);
            faulty(thirty + " and not @" + unit + ";", 2);
        }
        faulty("tide 1" + "+1".repeat(28) + "+(@1);", 2);
    }

    /** A way of parentheses and nots by the bits of a number, closed again. */
    private static String nested(int bits, int deep, String mark) {
        StringBuilder text = new StringBuilder("tide ");
        StringBuilder behind = new StringBuilder();
        for (int i = 0; i < deep; i++) {
            boolean not = (bits >> i & 1) != 0;
            text.append(i == 7 ? mark : "").append(not ? "not " : "(");
            behind.append(not ? "" : ")");
        }
        return text.append("1").append(behind).append(";").toString();
    }

    private static void depth() {
        CHECK.by("Terms", "(a unit ( e ), or a one behind not, within 6 others at most)");
        for (int bits = 0; bits < 128; bits++) {
            fine(nested(bits, 7, ""), 0);
        }
        String deep = nested(0, 7, "").substring(5, 20);
        fine("tide " + deep + "+" + deep + ";", 0);
        CHECK.by("Terms", "what is within 7 others: at its first TOKEN, or the not");
        for (int bits = 0; bits < 256; bits++) {
            faulty(nested(bits, 8, "@"), 2);
        }
        faulty("tide 1 + (((((((1 * @(1))))))));", 2);
        faulty("tide (((((((1 and @not 1)))))));", 2);
        faulty("tide not (not (not (not row < @(3))));", 2);
        fine("tide not (not (not (not row < 2 and 2 < (3))));", 0);
    }

    private static void firstFault() {
        CHECK.by("Terms", "FAULTS, the first by its place (bytes from 0");
        faulty("@#;hut 9 9;", 1);
        faulty("wind @101;hut 9 9;#", 4);
        faulty("hut 0 0;hut 0 @0;wind 101;", 3);
        faulty("hut @9 #;", 4);
        faulty("hut @9 9 9", 4);
        faulty("hut 1 1 @1;hut 1 1;", 2);
        faulty("wind @#;wind 101;", 1);
        faulty("walker a at 0 0 stride @9 slip 10", 4);
        faulty("wind 1;@wind 101;wind #", 2);
        faulty("wind 1 @1;#", 2);
        faulty("walker a at 0 0 stride 10;walker @a at 9 9 stride 9;", 3);
    }

    private static void endOfText() {
        CHECK.by("Terms", "the end: the text's length");
        String[] tokens = ("beach 3 by 3 ; hut 0 0 ; walker a at 1 0 stride 10 slip 3 ; tide ( row + 1 ) < 2 and not 3 or"
            + " minute = 2 ; wind 3 ; draw 4 ;").split(" ");
        StringBuilder text = new StringBuilder();
        for (String token : tokens) {
            text.append(token);
            if (token.equals(";")) {
                CHECK.due("whole lines", Check.tell(new SandNights(), text.toString()) >= 0, true);
            } else {
                faulty(text.toString(), 2, text.length());
                faulty(text + " \n ", 2, text.length() + 3);
            }
            text.append(" ");
        }
    }

    private static void faultOne() {
        CHECK.by("Terms", "1 no TOKEN");
        for (String none : "# ! , . : [ ] { } _ A Z @ ^ ~ & | abcdefghi 00000 1a 123456 9999z".split(" ")) {
            faulty(none, 1, 0);
            faulty("wind 1;" + none, 1, 7);
            faulty("wind " + none + ";", 1, 5);
            faulty("tide row + " + none + ";", 1, 11);
            faulty("hut 0 0 " + none, 1, 8);
        }
    }

    private static void leastFault() {
        CHECK.by("Terms", "at one place the least");
        faulty("@abcdefghi", 1);
        faulty("wind @12345;", 1);
        faulty("wind @101a;", 1);
        faulty("wind 1 @12345;", 1);
        faulty("hut 0 0;hut 0 @00000;", 1);
        faulty("walker @strideabc at 0 0 stride 10;", 1);
        faulty("tide 1" + "+1".repeat(29) + "+@#;", 1);
        faulty("wind 1;@windabcde 1;", 1);
        faulty("beach@", 2);
        faulty(FIVE + "@walker a at 9 9 stride 9;", 2);
        faulty(FOUR + "@hut 0 2;", 2);
    }

    private static void faultTwo() {
        CHECK.by("Terms", "2 one that can't stand there");
        for (String start : "; 7 by sand at stride slip or and not row column minute night trod ( ) <".split(" ")) {
            faulty("@" + start + " 1;", 2);
            faulty("wind 1;@" + start + " 1;", 2);
        }
        faulty("beach @;", 2);
        faulty("beach @by 3;", 2);
        faulty("beach 3 @3;", 2);
        faulty("beach 3 by @by;", 2);
        faulty("beach 3 by 3 @3;", 2);
        faulty("beach 3 by 3 @wind 3;", 2);
        faulty("hut @;", 2);
        faulty("hut 1 @;", 2);
        faulty("hut 1 @-1;", 2);
        faulty("hut 1 1 @1;", 2);
        faulty("walker @7 at 0 0 stride 10;", 2);
        faulty("walker a @0 0 stride 10;", 2);
        faulty("walker a at @a 0 stride 10;", 2);
        faulty("walker a at 0 @stride 10;", 2);
        faulty("walker a at 0 0 @10;", 2);
        faulty("walker a at 0 0 @slip 1;", 2);
        faulty("walker a at 0 0@;", 2);
        faulty("walker a at 0 0 stride @;", 2);
        faulty("walker a at 0 0 stride 10 @stride 10;", 2);
        faulty("walker a at 0 0 stride 10 @1;", 2);
        faulty("walker a at 0 0 stride 10 slip @;", 2);
        faulty("walker a at 0 0 stride 10 slip 1 @slip 1;", 2);
        faulty("wind @wind;", 2);
        faulty("wind @- 1;", 2);
        faulty("draw @(1);", 2);
        CHECK.by("Terms",
            "(one of a sort too many, a second time, beach behind another line: at the line's first word");
        faulty(FOUR + "@hut #", 2);
        faulty(FIVE + "@walker #", 2);
        faulty("tide 1;@tide #", 2);
        faulty("wind 1;@wind #", 2);
        faulty("draw 1;@draw #", 2);
        faulty("beach 2 by 2;@beach #", 2);
        faulty("draw 1;@beach #", 2);
    }

    private static void faultThree() {
        CHECK.by("Terms", "3 a NAME told already");
        faulty("walker a at 0 0 stride 10;walker @a at 1 0 stride 10;", 3);
        faulty("walker a at 0 0 stride 10;walker b at 0 0 stride 10;hut 3 3;walker @a at 1 0 stride 10;", 3);
        faulty(FIVE.substring(0, FIVE.indexOf("walker f")) + "walker @d at 1 0 stride 10;", 3);
        fine("walker a at 0 0 stride 10;walker aa at 0 0 stride 10;walker b at 0 0 stride 10;", 3);
        fine("walker abcdefgh at 0 0 stride 10;walker bcdefgha at 0 0 stride 10;walker bcdefgh at 0 0 stride 10;", 3);
        CHECK.by("Terms", "a hut where one is told, or a WALKER");
        faulty("hut 1 2;hut 1 @2;", 3);
        faulty("hut 1 2;hut 0 0;wind 1;hut 1 @2;", 3);
        faulty("walker a at 2 1 stride 10;hut 2 @1;", 3);
        faulty("walker b at 3 3 stride 10;walker a at 2 1 stride 10;hut 3 @3;", 3);
        fine("walker a at 2 1 stride 10;hut 1 2;", 1);
        CHECK.by("Terms", "a WALKER where a hut is told (each at the row)");
        faulty("hut 2 1;walker a at 2 @1 stride 9;", 3);
        faulty("hut 2 1;hut 3 0;walker a at 3 \n @0 stride 10;", 3);
        fine("hut 2 1;walker a at 1 2 stride 10;hut 1 1;", 1);
    }

    private static void faultFour() {
        CHECK.by("Terms", "4 a number that can't be");
        faulty("beach @1 by 2;", 4);
        faulty("beach 2 by @6;", 4);
        faulty("hut @4 4;", 4);
        faulty("hut 3 @9999;", 4);
        faulty("walker a at @4 3 stride 10;", 4);
        faulty("walker a at 3 @4 stride 10;", 4);
        faulty("walker a at 3 3 stride @1;", 4);
        faulty("walker a at 3 3 stride 10 slip @9999;", 4);
        faulty("wind @9999;", 4);
        faulty("draw @9999;", 4);
    }

    private static void newObject() {
        CHECK.by("1", "An empty BEACH (4 by 4 CELLS).");
        SandNights x = new SandNights();
        int[] about = {0, 4, 4, 0, 0, 0, 0, 0, 0, 0, 0, 0, 0, 0};
        for (int what = 0; what < about.length; what++) {
            CHECK.due("about(" + what + ")", x.about(what), about[what]);
        }
        CHECK.due("sand(15, 0)", x.sand(15, 0), -1);
        CHECK.due("sand(16, 0)", x.sand(16, 0), -2);
        CHECK.due("prints()", x.prints(), 0);
        CHECK.due("walker(0, 0)", x.walker(0, 0), -1);
        CHECK.due("parts()", x.parts(), 1);
        CHECK.due("back(0)", x.back(0), -1);
        CHECK.due("beach()", x.beach(), 0);
    }

    private static void feed() {
        CHECK.by("2", "Twenty bytes come behind those on the TAPE, of each number the highest first");
        SandNights x = new SandNights();
        CHECK.due("wind 1;", x.feed(0x77696e64, 0x20313b20, 0x64726177, 0x20322030, 0x30202020), 20);
        CHECK.due("end(19)", x.end(19), 19);
        CHECK.due("beach()", x.beach(), -1);
        CHECK.due("fault(1)", x.fault(1), 15);
        CHECK.due("end(14)", x.end(14), 14);
        CHECK.due("behind those on the TAPE", x.feed(0x3b646561, 0x20202020, 0x20202020, 0x20202020, 0x20202020), 34);
        CHECK.due("beach()", x.beach(), -1);
        CHECK.due("fault(0)", x.fault(0), 2);
        CHECK.due("fault(1)", x.fault(1), 15);
        CHECK.due("end(15)", x.end(15), 15);
        CHECK.due("beach()", x.beach(), 0);
        CHECK.due("about(6)", x.about(6), 2);
        CHECK.due("lasts(1, 0)", x.lasts(1, 0), 99);
        CHECK.due("bytes above 127", x.feed(-1, -1, -1, -1, -1), 20);
        CHECK.due("beach()", x.beach(), -1);
        CHECK.due("fault(0)", x.fault(0), 1);
        CHECK.by("2", "how many there are; NONE, and nothing comes, if there would be more than 1,600");
        x = new SandNights();
        for (int i = 1; i <= 80; i++) {
            CHECK.due("feed", x.feed(0x20202020, 0x20202020, 0x20202020, 0x20202020, 0x20202020), 20 * i);
        }
        CHECK.due("feed beyond", x.feed(-1, -1, -1, -1, -1), -1);
        CHECK.due("about(11)", x.about(11), 1600);
        CHECK.due("end(1581)", x.end(1581), 1581);
        CHECK.due("a byte beyond", x.feed(-1, -1, -1, -1, -1), -1);
        CHECK.due("about(11)", x.about(11), 1581);
        CHECK.due("end(1580)", x.end(1580), 1580);
        CHECK.due("to the last byte", x.feed(0x20202020, 0x20202020, 0x20202020, 0x20202020, 0x20202020), 1600);
        CHECK.due("nothing came", x.beach(), 0);
    }

    private static void end() {
        CHECK.by("3", "The TAPE has its first n bytes: n");
        SandNights x = new SandNights();
        Check.feed(x, "wind 1;draw 7;#");
        CHECK.due("end(15)", x.end(15), 15);
        CHECK.due("end(14)", x.end(14), 14);
        CHECK.due("about(11)", x.about(11), 14);
        CHECK.due("beach()", x.beach(), 0);
        CHECK.due("about(6)", x.about(6), 7);
        Check.feed(x, "wind 1;draw 7;#");
        CHECK.due("end(7)", x.end(7), 7);
        CHECK.due("beach()", x.beach(), 0);
        CHECK.due("about(6)", x.about(6), 0);
        Check.feed(x, "#");
        CHECK.due("end(0)", x.end(0), 0);
        CHECK.due("beach()", x.beach(), 0);
        CHECK.by("3", "NONE, doing nothing, if it has not so many, or n is below 0");
        CHECK.due("end(1) of nothing", x.end(1), -1);
        Check.feed(x, "wind 1;");
        for (int n : new int[] {8, 1600, 1601, -1, Integer.MAX_VALUE, Integer.MIN_VALUE}) {
            CHECK.due("end(" + n + ")", x.end(n), -1);
            CHECK.due("about(11)", x.about(11), 7);
        }
        CHECK.due("beach()", x.beach(), 0);
        CHECK.due("lasts(1, 0)", x.lasts(1, 0), 99);
        CHECK.due("what was cut is gone", x.end(7), -1);
    }

    /** A beach with something of all that another beach takes away. */
    private static SandNights used() {
        SandNights x = Check.told("beach 3 by 2;walker a at 0 0 stride 10;walker b at 0 0 stride 10;draw 5;wind 50;");
        x.later(7);
        x.step(0, 1);
        x.night();
        x.step(0, 1);
        x.step(1, 1);
        x.minute();
        x.image(0);
        x.image(2);
        x.way(0, 0);
        x.seen(0, 0, true);
        x.minute();
        x.undo();
        return x;
    }

    private static void beach() {
        CHECK.by("4", "The TAPE (empty then) is the BEACH");
        SandNights x = used();
        Check.feed(x, "beach 2 by 3;walker b at 1 2 stride 20 slip 1;walker a at 1 2 stride 11;tide 1;draw 9;"
            + "wind 4;hut 0 0;");
        CHECK.due("bytes on the TAPE", x.about(11) > 0, true);
        CHECK.due("how many WALKERS", x.beach(), 2);
        CHECK.due("bytes on the TAPE", x.about(11), 0);
        CHECK.by("4", "(all as told, no prints, minute 0, night 0");
        int[] anew = {2, 2, 3, 1, 0, 0, 9, 0, 0, 0, 7, 0, 1, 0};
        for (int what = 0; what < anew.length; what++) {
            CHECK.due("about(" + what + ")", x.about(what), anew[what]);
        }
        CHECK.due("lasts(1, 0)", x.lasts(1, 0), 24);
        CHECK.due("sand(0, 4)", x.sand(0, 4), 1);
        CHECK.due("sand(0, 5)", x.sand(0, 5), 1);
        int[] walker = {5, 5, 20, 1, 0, 0};
        for (int what = 0; what < walker.length; what++) {
            CHECK.due("walker(0, " + what + ")", x.walker(0, what), walker[what]);
        }
        CHECK.due("prints()", x.prints(), 0);
        CHECK.due("sand(1, 2)", x.sand(1, 2), 0);
        CHECK.due("over(1, 0)", x.over(1, 0), 0);
        CHECK.due("met(1, 0)", x.met(1, 0), 0);
        CHECK.due("ghost(0, 0)", x.ghost(0, 0), -1);
        CHECK.by("4", "no ACTS are kept, no SIGHTS, nothing lies there, BOXES are empty then; the TIME stays");
        x = used();
        CHECK.due("acts to undo", x.about(7), 5);
        CHECK.due("an act to redo", x.about(8), 1);
        CHECK.due("an empty BEACH", x.beach(), 0);
        CHECK.due("undo()", x.undo(), false);
        CHECK.due("redo()", x.redo(), false);
        CHECK.due("untell(0)", x.untell(0), false);
        CHECK.due("about(9)", x.about(9), 0);
        CHECK.due("the first SIGHT anew", x.seen(0, 0, true), 0);
        CHECK.due("about(13)", x.about(13), 0);
        CHECK.due("lies(0)", x.lies(0), -1);
        for (int box = 0; box < 3; box++) {
            CHECK.due("back(" + box + ")", x.back(box), -1);
        }
        CHECK.due("the TIME", x.about(10), 7);
        CHECK.by("4", "how many WALKERS");
        for (int walkers = 0; walkers <= 5; walkers++) {
            String text = walkers == 5 ? FIVE : FIVE.substring(0, FIVE.indexOf("walker " + "abcdf".charAt(walkers)));
            CHECK.due("beach()", Check.tell(x, text), walkers);
            CHECK.due("about(0)", x.about(0), walkers);
        }
    }

    private static void stays() {
        CHECK.by("4", "NONE: a FAULT (all stays)");
        for (String text : new String[] {"beach 2 by 9;", "#", "wind", "hut 0 0;hut 0 0;", RICH + "#"}) {
            SandNights x = used();
            Check.feed(x, text);
            String before = Check.whole(x);
            int marked = before.indexOf("fault");
            CHECK.due("beach()", x.beach(), -1);
            String now = Check.whole(x);
            CHECK.due("ahead of the FAULT", now.startsWith(before.substring(0, marked)), true);
            CHECK.due("behind it", now.endsWith(before.substring(before.indexOf("lies", marked))), true);
            CHECK.due("about(11)", x.about(11), text.length());
            CHECK.due("redo()", x.redo(), true);
            CHECK.due("undo()", x.undo(), true);
            CHECK.due("undo()", x.undo(), true);
            CHECK.due("back(1)", x.back(1), -1);
            CHECK.due("back(0)", x.back(0), 1);
        }
    }

    /** Nothing of a beach, nor of a text with a fault, is left in the next one. */
    private static void toldOften() {
        CHECK.by("Terms", "4 by 4 if not told");
        SandNights x = new SandNights();
        for (int i = 0; i < 4; i++) {
            CHECK.due("the rich beach", Check.tell(x, RICH), 1);
            CHECK.due("a fault", Check.tell(x, RICH + "#"), -1);
            x.end(0);
            x.step(0, 9);
            x.minute();
            x.step(0, 9);
            CHECK.due("a poor beach", Check.tell(x, "walker b at 0 0 stride 20;walker a at 0 0 stride 20;"), 2);
            int[] about = {2, 4, 4, 0, 0, 0, 0, 0, 0, 0, 0, 0, 0, 0};
            for (int what = 0; what < about.length; what++) {
                CHECK.due("poor about(" + what + ")", x.about(what), about[what]);
            }
            CHECK.due("no tide", x.sand(0, 5), 0);
            CHECK.due("no wind", x.lasts(1, 1), 1);
            CHECK.due("no slip", x.walker(0, 3), 0);
            CHECK.due("no hut", x.sand(3, 4), 0);
            x.minute();
            CHECK.due("met anew", x.met(0, 1), 1);
            x.night();
            CHECK.due("an empty beach", x.beach(), 0);
            CHECK.due("no tide", x.sand(0, 5), 0);
            CHECK.due("no hut where a walker was", Check.tell(x, "hut 0 0;hut 3 1;"), 0);
            CHECK.due("no tide", x.sand(0, 5), 0);
        }
    }

    private static void fault() {
        CHECK.by("5", "Of the latest beach() what 0: its FAULT (0), 1: its place (NONE).");
        SandNights x = new SandNights();
        CHECK.due("fault(0) at first", x.fault(0), 0);
        CHECK.due("fault(1) at first", x.fault(1), -1);
        String[] texts = {"#", " ;", "hut 1 1;hut 1 1;", "wind 101;"};
        int[] places = {0, 1, 14, 5};
        for (int i = 0; i < 4; i++) {
            Check.tell(x, texts[i]);
            CHECK.due("fault(0)", x.fault(0), i + 1);
            CHECK.due("fault(1)", x.fault(1), places[i]);
            x.end(0);
            Check.feed(x, "wind 1;");
            CHECK.due("till another beach()", x.fault(0), i + 1);
            x.beach();
            CHECK.due("fault(0) without one", x.fault(0), 0);
            CHECK.due("fault(1) without one", x.fault(1), -1);
        }
        CHECK.by("5", "NONE for another what");
        Check.tell(x, "wind 101;");
        for (int what : new int[] {-1, 2, Integer.MAX_VALUE, Integer.MIN_VALUE}) {
            CHECK.due("fault(" + what + ")", x.fault(what), -1);
        }
    }
}
