/**
 * LAYERS, DRAWN and BATH at their bounds (promises 7 and 8, and as an evening meets them): the last
 * that is taken, the first that is not, what is cut.
 */
public final class TankBoundsTest {
    private static final int BAD = BathNight.BAD, NO = BathNight.NO, NONE = BathNight.NONE;

    public static void main(String[] args) {
        heatIsCut();
        drawnOfEveryTank();
        drawnTooMuch();
        layersOfDrawn();
        partsAreCut();
        coldForEachPint();
        asAtFirst();
        fewestPints();
        oneUnitMore();
        hottest();
        tooCold();
        noMoreThanTheTankHolds();
        noMoreThanTheBather();
        kettleThatFits();
        kettleLeavesLess();
        heatOfABathIsCut();
        numbersOfBath();
        Check.end();
    }

    /** "HEAT of a LAYER: its units by P, cut". */
    private static void heatIsCut() {
        // 7 pints of 11 degrees are 77 units, of which some go in one step
        int[][] due = {{0, 11}, {1, 10}, {7, 10}, {8, 9}, {14, 9}, {15, 8}, {70, 1}, {71, 0}, {76, 0}, {77, 0}, {999, 0}};
        for (int[] one : due) {
            BathNight x = Check.laid("t1,7,0,11," + one[0] + ";n1;");
            Check.due("left(0, 0) less " + one[0], x.left(0, 0), one[1]);
        }
    }

    /** "LAYER 0 is at the top"; "DRAWN h pints: their units"; as drawn(h, -1) and drawn(h, layer) tell. */
    private static void drawnOfEveryTank() {
        for (int layers = 1; layers <= 6; layers++) {
            for (int pints : new int[] {1, 2, 7, 60}) {
                BathNight x = Check.laid("t" + layers + "," + pints + ",3,40,0;");
                int holds = layers * pints;
                for (int h : new int[] {0, 1, pints - 1, pints, pints + 1, holds - 1, holds}) {
                    if (h > holds) {
                        continue;
                    }
                    Check.due("drawn(" + h + ", -1) of " + holds, x.drawn(h, -1), 40 * h);
                    for (int j = 0; j < layers; j++) {
                        // cold water came in below as far up as this
                        int cold = Math.max(0, Math.min(pints, h - (layers - 1 - j) * pints));
                        Check.due("drawn(" + h + ", " + j + ") of " + holds, x.drawn(h, j), 40 * (pints - cold) + 3 * cold);
                    }
                }
            }
        }
    }

    /** "h pints (0 to 999; no more than it holds)". */
    private static void drawnTooMuch() {
        int[][] tanks = {{1, 1}, {1, 60}, {6, 1}, {6, 60}, {3, 20}};
        for (int[] tank : tanks) {
            BathNight x = Check.laid("t" + tank[0] + "," + tank[1] + ",0,95,0;");
            int holds = tank[0] * tank[1];
            Check.due("drawn(-1, -1) of " + holds, x.drawn(-1, -1), BAD);
            Check.due("drawn(0, -1) of " + holds, x.drawn(0, -1), 0);
            Check.due("drawn(all, -1) of " + holds, x.drawn(holds, -1), 95 * holds);
            Check.due("drawn(one more, -1) of " + holds, x.drawn(holds + 1, -1), BAD);
            Check.due("drawn(one more, 0) of " + holds, x.drawn(holds + 1, 0), BAD);
            Check.due("drawn(999, 0) of " + holds, x.drawn(999, 0), BAD);
            Check.due("drawn(1000, 0) of " + holds, x.drawn(1000, 0), BAD);
        }
    }

    /** "(layer = -1), then units of a LAYER": -1 to the last one that THE TANK has. */
    private static void layersOfDrawn() {
        for (int layers = 1; layers <= 6; layers++) {
            BathNight x = Check.laid("t" + layers + ",5,0,20,0;");
            Check.due("drawn(0, -2) of " + layers, x.drawn(0, -2), BAD);
            Check.due("drawn(0, -1) of " + layers, x.drawn(0, -1), 0);
            Check.due("drawn(0, last) of " + layers, x.drawn(0, layers - 1), 100);
            Check.due("drawn(0, behind the last) of " + layers, x.drawn(0, layers), BAD);
            Check.due("drawn(0, 6) of " + layers, x.drawn(0, 6), BAD);
        }
    }

    /** "of a part of one its units times the part by P, cut"; "of each old LAYER in it .., cut". */
    private static void partsAreCut() {
        // at step 1 two layers of two pints have 9 units each: one pint of them is 4 units
        String house = "t2,2,0,5,1;";
        BathNight x = Check.laid(house + "b1,4,4,1,1,9;n2;");
        Check.due("evening(0, 0, 2)", x.evening(0, 0, 2), 4);
        // 4 and 4, 4 and 0 stay, each less 1: 7 and 3 (9 drawn as one would leave 8)
        Check.due("left(0, 0)", x.left(0, 0), 3);
        Check.due("left(0, 1)", x.left(0, 1), 1);
        x = Check.laid(house + "b1,5,9,1,1,9;n2;");
        Check.due("evening(0, 0, 0) of five degrees", x.evening(0, 0, 0), NONE);
        // a whole layer and a part: 9 and 4 units by 3 pints
        x = Check.laid(house + "b3,4,4,1,1,9;n2;");
        Check.due("evening(0, 0, 3)", x.evening(0, 0, 3), 3);
        // behind it 4 and 0 stay above, 0 and 0 below; 3 and 0 at the end
        Check.due("left(0, 0) behind three pints", x.left(0, 0), 1);
        Check.due("left(0, 1) behind three pints", x.left(0, 1), 0);
        // "all for a whole one": 9 units, not twice 4
        x = Check.laid("t2,2,0,5,1;b2,4,4,1,1,9;n2;");
        Check.due("evening(0, 0, 3) of two", x.evening(0, 0, 3), 2);
        // 9 units go up whole, less 1: 4 degrees
        Check.due("left(0, 0) behind two pints", x.left(0, 0), 4);
        Check.due("left(0, 1) behind two pints", x.left(0, 1), 0);
    }

    /** "and C for each pint that came in below". */
    private static void coldForEachPint() {
        for (int cold : new int[] {0, 1, 40}) {
            BathNight x = Check.laid("t2,5," + cold + ",90,0;");
            for (int h = 0; h <= 10; h++) {
                Check.due("drawn(" + h + ", 1) by " + cold, x.drawn(h, 1), h < 5 ? 90 * (5 - h) + cold * h : 5 * cold);
                Check.due("drawn(" + h + ", 0) by " + cold, x.drawn(h, 0), h < 5 ? 450 : 90 * (10 - h) + cold * (h - 5));
            }
        }
    }

    /** "THE TANK as at first, without a fire": no evening, no PLAN and no draw before is seen in it. */
    private static void asAtFirst() {
        BathNight x = Check.laid("t2,10,10,60,99;f3,999,9;c2;b20,40,50,1,0,9;");
        x.plan(0, true);
        for (int round = 0; round < 2; round++) {
            x.score(1, 2);
            x.tap(1, 0, 60, 99);
            x.drawn(20, 0);
            Check.due("drawn(0, 0)", x.drawn(0, 0), 600);
            Check.due("drawn(3, -1)", x.drawn(3, -1), 180);
            Check.due("drawn(3, 1)", x.drawn(3, 1), 450);
            Check.due("bath(0, false, 0)", x.bath(0, false, 0), 12);
        }
    }

    private static void isBath(String tank, String rest, boolean kettle, int pints, int heat) {
        BathNight x = Check.laid(tank + rest);
        Check.due(tank + rest + " bath(0, " + kettle + ", 0)", x.bath(0, kettle, 0), pints);
        Check.due(tank + rest + " bath(0, " + kettle + ", 1)", x.bath(0, kettle, 1), heat);
    }

    /** "the fewest pints h (0 ..) .. by which its heat is L or more". */
    private static void fewestPints() {
        String tank = "t2,10,10,50,0;";
        // without a pint it is at 10; each pint of ten gives four degrees
        isBath(tank, "b10,0,10,1,0,0;", false, 0, 10);
        isBath(tank, "b10,9,10,1,0,0;", false, 0, 10);
        isBath(tank, "b10,10,10,1,0,0;", false, 0, 10);
        isBath(tank, "b10,11,99,1,0,0;", false, 1, 14);
        isBath(tank, "b10,14,99,1,0,0;", false, 1, 14);
        isBath(tank, "b10,15,99,1,0,0;", false, 2, 18);
        isBath(tank, "b10,49,99,1,0,0;", false, 10, 50);
        isBath(tank, "b10,50,99,1,0,0;", false, 10, 50);
        // the last pint of the upper layer, the first of the lower one
        isBath(tank, "b20,30,99,1,0,0;", false, 10, 30);
        isBath(tank, "b20,31,99,1,0,0;", false, 11, 32);
        isBath(tank, "b20,50,99,1,0,0;", false, 20, 50);
        isBath("t1,1,0,95,0;", "b1,0,0,1,0,0;", false, 0, 0);
        isBath("t1,1,0,95,0;", "b1,1,95,1,0,0;", false, 1, 95);
    }

    /** A tank that is warmer than cold water by one unit alone, and one that is not. */
    private static void oneUnitMore() {
        isBath("t1,1,10,11,0;", "b1,11,11,1,0,0;", false, 1, 11);
        isBath("t1,1,10,10,0;", "b1,11,11,1,0,0;", false, NO, NO);
        isBath("t6,1,10,11,0;", "b6,11,11,1,0,0;", false, 6, 11);
        isBath("t6,1,10,11,0;", "b7,11,11,1,0,0;", false, NO, NO);
        // 19 units, 10 of them as cold: at step 1 the pint has 11 and at step 2 it has 10
        for (int from = 0; from <= 2; from++) {
            BathNight x = Check.laid("t1,1,10,12,1;b1,11,11,1," + from + ",9;n3;");
            Check.due("evening(0, 0, 0) from " + from, x.evening(0, 0, 0), from == 2 ? NONE : 1);
        }
        // two layers, the lower one as cold: all that is warm is in the upper one
        BathNight x = Check.laid("t2,2,10,30,0;b2,30,30,1,0,9;b4,20,20,1,1,9;b4,21,21,1,2,9;");
        Check.due("evening(1, 1, 3)", x.evening(1, 1, 3), 2);
        Check.due("evening(1, 1, 2)", x.evening(1, 1, 2), 20);
        Check.due("evening(1, 2, 0)", x.evening(1, 2, 0), NONE);
    }

    /** "it can be had, if that is H or less". */
    private static void hottest() {
        String tank = "t2,10,10,50,0;";
        isBath(tank, "b10,15,18,1,0,0;", false, 2, 18);
        isBath(tank, "b10,15,17,1,0,0;", false, NO, NO);
        isBath(tank, "b10,15,15,1,0,0;", false, NO, NO);
        isBath(tank, "b10,0,10,1,0,0;", false, 0, 10);
        isBath(tank, "b10,0,9,1,0,0;", false, NO, NO);
        isBath(tank, "b10,9,9,1,0,0;", false, NO, NO);
    }

    /** No number of pints is enough. */
    private static void tooCold() {
        isBath("t2,10,10,50,0;", "b10,50,50,1,0,0;", false, 10, 50);
        isBath("t2,10,10,50,0;", "b10,51,99,1,0,0;", false, NO, NO);
        isBath("t1,10,0,0,0;", "b10,1,99,1,0,0;", false, NO, NO);
        isBath("t1,10,0,0,0;", "b10,0,99,1,0,0;", false, 0, 0);
    }

    /** "(.. and to what THE TANK holds)". */
    private static void noMoreThanTheTankHolds() {
        // ten pints of 50 and so many cold ones
        isBath("t1,10,10,50,0;", "b20,30,30,1,0,0;", false, 10, 30);
        isBath("t1,10,10,50,0;", "b20,31,99,1,0,0;", false, NO, NO);
        isBath("t2,5,10,50,0;", "b20,30,30,1,0,0;", false, 10, 30);
        isBath("t2,5,10,50,0;", "b20,31,99,1,0,0;", false, NO, NO);
        isBath("t1,10,10,50,0;", "b11,46,46,1,0,0;", false, 10, 46);
        isBath("t1,10,10,50,0;", "b11,47,99,1,0,0;", false, NO, NO);
        isBath("t1,11,10,50,0;", "b11,47,99,1,0,0;", false, 11, 50);
        isBath("t1,1,0,95,0;", "b99,0,99,1,0,0;", false, 0, 0);
        isBath("t1,1,0,95,0;", "b95,1,1,1,0,0;", false, 1, 1);
        isBath("t1,1,0,95,0;", "b96,1,1,1,0,0;", false, NO, NO);
    }

    /** "the fewest pints h (0 to V ..)". */
    private static void noMoreThanTheBather() {
        isBath("t6,60,10,50,0;", "b1,50,50,1,0,0;", false, 1, 50);
        isBath("t6,60,10,50,0;", "b1,51,99,1,0,0;", false, NO, NO);
        isBath("t6,60,10,50,0;", "b99,50,50,1,0,0;", false, 99, 50);
        isBath("t6,60,10,50,0;", "b99,51,99,1,0,0;", false, NO, NO);
    }

    /** "the kettle's G pints, if it is hot and G no more than V (G 0 else)". */
    private static void kettleThatFits() {
        String tank = "t1,20,10,50,0;";
        // more than the bather: as if there were none
        isBath(tank, "b9,10,99,1,0,0;k10,1;", true, 0, 10);
        isBath(tank, "b9,50,50,1,0,0;k10,1;", true, 9, 50);
        // just as much: nothing but water of 100 degrees
        isBath(tank, "b10,10,99,1,0,0;k10,1;", true, NO, NO);
        isBath(tank, "b10,10,99,1,0,0;k10,1;", false, 0, 10);
        // one pint less: ten of 100 and one of 10
        isBath(tank, "b11,10,91,1,0,0;k10,1;", true, 0, 91);
        isBath(tank, "b11,10,90,1,0,0;k10,1;", true, NO, NO);
        isBath(tank, "b11,10,90,1,0,0;k10,1;", false, 0, 10);
        isBath(tank, "b11,10,91,1,0,0;k11,1;", true, NO, NO);
        isBath(tank, "b11,10,91,1,0,0;k12,1;", true, 0, 10);
        // no kettle, the largest kettle, the smallest kettle
        isBath(tank, "b20,10,10,1,0,0;k0,1;", true, 0, 10);
        isBath(tank, "b20,0,99,1,0,0;k20,1;", true, NO, NO);
        isBath(tank, "b21,0,99,1,0,0;k20,1;", true, 0, 95);
        isBath(tank, "b19,0,99,1,0,0;k20,1;", true, 0, 10);
        isBath(tank, "b9,20,20,1,0,0;k1,1;", true, 0, 20);
        isBath(tank, "b1,0,99,1,0,0;k1,1;", true, NO, NO);
    }

    /** "(0 to V less G ..)": what is drawn and the kettle's pints are no more than V. */
    private static void kettleLeavesLess() {
        String tank = "t1,20,10,50,0;";
        // five of 100 and five to be drawn: 75 at most
        isBath(tank, "b10,75,99,1,0,0;k5,1;", true, 5, 75);
        isBath(tank, "b10,76,99,1,0,0;k5,1;", true, NO, NO);
        isBath(tank, "b10,55,55,1,0,0;k5,1;", true, 0, 55);
        isBath(tank, "b10,56,99,1,0,0;k5,1;", true, 1, 59);
        isBath(tank, "b10,50,50,1,0,0;k5,1;", true, NO, NO);
        isBath(tank, "b10,50,50,1,0,0;k5,1;", false, 10, 50);
        // nine of 100 and one: 95 at most
        isBath(tank, "b10,95,95,1,0,0;k9,1;", true, 1, 95);
        isBath(tank, "b10,96,99,1,0,0;k9,1;", true, NO, NO);
    }

    /** "(units of h, 100 G, C for each other one together, by V, cut)": together, and cut once. */
    private static void heatOfABathIsCut() {
        // 3 pints: 50 and twice 10 by 3 are 23 and a third; 150 by 3 is 50
        isBath("t1,20,10,50,0;", "b3,23,23,1,0,0;", false, 1, 23);
        isBath("t1,20,10,50,0;", "b3,24,36,1,0,0;", false, 2, 36);
        isBath("t1,20,10,50,0;", "b3,36,36,1,0,0;", false, 2, 36);
        isBath("t1,20,10,50,0;", "b3,37,49,1,0,0;", false, NO, NO);
        // 100 and 50 and 10 by 3 are 53 and a third
        isBath("t1,20,10,50,0;", "b3,53,53,1,0,0;k1,1;", true, 1, 53);
        isBath("t1,20,10,50,0;", "b3,41,53,1,0,0;k1,1;", true, 1, 53);
        isBath("t1,20,10,50,0;", "b3,40,40,1,0,0;k1,1;", true, 0, 40);
        // 7 pints of 100 and one of 50 and one of 10, by 9: 84 and 4 of 9
        isBath("t1,20,10,50,0;", "b9,81,84,1,0,0;k7,1;", true, 1, 84);
    }

    /** Promise 8: "pints DRAWN (what = 0), heat (1). NO: it can't be had; BAD", BAD first. */
    private static void numbersOfBath() {
        String two = "t1,20,10,50,0;b10,30,30,1,0,0;b10,99,99,1,0,0;";
        BathNight x = Check.laid(two);
        for (int i = -1; i <= 2; i++) {
            for (int what = -1; what <= 2; what++) {
                boolean bad = i < 0 || i > 1 || what < 0 || what > 1;
                int due = bad ? BAD : i == 1 ? NO : what == 0 ? 5 : 30;
                Check.due("bath(" + i + ", false, " + what + ")", x.bath(i, false, what), due);
                Check.due("bath(" + i + ", true, " + what + ")", x.bath(i, true, what), due);
            }
        }
        Check.due("bath(0, true, 0) of no bathers", new BathNight().bath(0, true, 0), BAD);
    }
}
