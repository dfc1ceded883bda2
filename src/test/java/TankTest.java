/** Promises 7 and 8: what is DRAWN from THE TANK as at first, and a BATH from it. */
public final class TankTest {
    public static void main(String[] args) {
        drawn();
        drawnWrongly();
        bath();
        bathWithKettle();
        bathWrongly();
        Check.end();
    }

    private static void drawn() {
        // two layers of 10 pints at 60 degrees, the cold water at 10
        BathNight x = Check.laid("t2,10,10,60,5;f3,900,9;c1;");
        int[][] due = {{0, 0, 600, 600}, {1, 60, 600, 550}, {7, 420, 600, 250}, {10, 600, 600, 100},
            {13, 780, 450, 100}, {19, 1140, 150, 100}, {20, 1200, 100, 100}};
        for (int[] row : due) {
            for (int layer = -1; layer < 2; layer++) {
                Check.due("drawn(" + row[0] + ", " + layer + ")", x.drawn(row[0], layer), row[2 + layer]);
            }
        }
        // it is as at first each time, whatever was drawn or planned
        x.plan(0, true);
        x.score(0, 2);
        Check.due("drawn(7, 1) again", x.drawn(7, 1), 250);
    }

    private static void drawnWrongly() {
        BathNight x = Check.laid("t2,10,10,60,5;");
        int[][] bad = {{21, -1}, {-1, -1}, {0, 2}, {0, -2}, {999, 0}, {1000, 0}, {21, 5}};
        for (int[] row : bad) {
            Check.due("drawn(" + row[0] + ", " + row[1] + ")", x.drawn(row[0], row[1]), BathNight.BAD);
        }
        x = Check.laid("t6,60,0,95,0;");
        Check.due("drawn(360, -1)", x.drawn(360, -1), 34200);
        Check.due("drawn(361, -1)", x.drawn(361, -1), BathNight.BAD);
        Check.due("drawn(61, 5)", x.drawn(61, 5), 0);
        Check.due("drawn(61, 4)", x.drawn(61, 4), 59 * 95);
    }

    private static void isBath(String bather, int pints, int heat) {
        BathNight x = Check.laid("t2,10,10,60,5;" + bather);
        Check.due(bather + " bath(0, false, 0)", x.bath(0, false, 0), pints);
        Check.due(bather + " bath(0, false, 1)", x.bath(0, false, 1), heat);
        // without a kettle it is the same
        Check.due(bather + " bath(0, true, 0)", x.bath(0, true, 0), pints);
    }

    private static void bath() {
        isBath("b20,30,40,1,0,9;", 8, 30);
        isBath("b20,31,40,1,0,9;", 9, 32);
        isBath("b10,10,10,1,0,9;", 0, 10);
        isBath("b10,0,9,1,0,9;", BathNight.NO, BathNight.NO);
        isBath("b10,60,60,1,0,9;", 10, 60);
        isBath("b10,61,99,1,0,9;", BathNight.NO, BathNight.NO);
        // one pint is too cold, two make 130 by 3, cut: 43
        isBath("b3,30,43,1,0,9;", 2, 43);
        isBath("b3,30,42,1,0,9;", BathNight.NO, BathNight.NO);
        isBath("b20,60,60,1,0,9;", 20, 60);
        // the tank holds 20 pints: 1200 and 800, and 1200 and 790, by all
        isBath("b99,20,20,1,0,9;", 20, 20);
        isBath("b99,21,99,1,0,9;", BathNight.NO, BathNight.NO);
    }

    private static void bathWithKettle() {
        BathNight x = Check.laid("t2,10,10,60,5;b20,30,40,1,0,9;b4,90,99,1,0,9;b4,99,99,1,0,9;b3,60,60,1,0,9;b5,30,40,1,0,9;k4,7;");
        Check.due("bath(0, true, 0)", x.bath(0, true, 0), 1);
        Check.due("bath(0, true, 1)", x.bath(0, true, 1), 30);
        Check.due("bath(0, false, 0)", x.bath(0, false, 0), 8);
        // four pints of the kettle fill it: 100 degrees, too hot for either
        Check.due("bath(1, true, 0)", x.bath(1, true, 0), BathNight.NO);
        Check.due("bath(2, true, 0)", x.bath(2, true, 0), BathNight.NO);
        // the kettle is more than these three pints
        Check.due("bath(3, true, 0)", x.bath(3, true, 0), 3);
        Check.due("bath(3, true, 1)", x.bath(3, true, 1), 60);
        // 410 by 5 is 82: with the kettle it is too hot, and it is not left out
        Check.due("bath(4, true, 0)", x.bath(4, true, 0), BathNight.NO);
        Check.due("bath(4, false, 1)", x.bath(4, false, 1), 30);
        x = Check.laid("t1,10,10,60,5;b20,50,50,1,0,9;k10,1;");
        // ten of the kettle leave ten to be drawn or cold: none is drawn
        Check.due("bath(0, true, 0)", x.bath(0, true, 0), BathNight.NO);
        x = Check.laid("t1,10,10,60,5;b20,50,55,1,0,9;b20,80,80,1,0,9;b20,81,99,1,0,9;k10,1;");
        Check.due("bath(0, true, 0)", x.bath(0, true, 0), 0);
        Check.due("bath(0, true, 1)", x.bath(0, true, 1), 55);
        Check.due("bath(1, true, 0)", x.bath(1, true, 0), 10);
        Check.due("bath(1, true, 1)", x.bath(1, true, 1), 80);
        Check.due("bath(2, true, 1)", x.bath(2, true, 1), BathNight.NO);
    }

    private static void bathWrongly() {
        BathNight x = Check.laid("t2,10,10,60,5;b10,61,99,1,0,9;");
        int[][] bad = {{-1, 0}, {1, 0}, {6, 0}, {0, -1}, {0, 2}};
        for (int[] row : bad) {
            Check.due("bath(" + row[0] + ", false, " + row[1] + ")", x.bath(row[0], false, row[1]), BathNight.BAD);
            Check.due("bath(" + row[0] + ", true, " + row[1] + ")", x.bath(row[0], true, row[1]), BathNight.BAD);
        }
    }
}
