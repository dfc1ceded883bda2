/** Promises 15 to 23: rows, steps, fires and tanks that would be better, and when to come. */
public final class BetterTest {
    private static final int NONE = BathNight.NONE;

    public static void main(String[] args) {
        best();
        swapped();
        when();
        fewest();
        bigger();
        tap();
        tenths();
        told();
        looks();
        looksOfThree();
        looksWithoutEnd();
        wrongly();
        Check.end();
    }

    private static void best() {
        BathNight x = Check.laid("t1,60,10,50,0;b5,10,10,5,0,10;b5,10,10,2,0,2;");
        Check.due("score(0, 2)", x.score(0, 2), 107);
        Check.due("best(-1)", x.best(-1), 7);
        Check.due("best(0)", x.best(0), 1);
        Check.due("best(1)", x.best(1), 0);
        Check.due("best(2)", x.best(2), BathNight.BAD);
        Check.due("best(-2)", x.best(-2), BathNight.BAD);
        // the row itself stays, and is not where the search begins
        Check.due("score(0, 2)", x.score(0, 2), 107);
        x = Check.laid("t1,60,10,50,0;b5,10,10,5,0,9;b5,10,10,5,0,9;b5,10,10,5,0,9;b5,10,10,5,0,9;");
        x.row(0, 3);
        for (int k = 0; k < 4; k++) {
            Check.due("best(" + k + ") of those alike", x.best(k), k);
        }
        Check.due("best(-1) of those alike", x.best(-1), 320);
        // six, of whom the last must go first, the others as they come
        x = Check.laid("t1,60,10,50,0;b5,10,10,1,1,9;b5,10,10,1,2,9;b5,10,10,1,3,9;b5,10,10,1,4,9;b5,10,10,1,5,9;b5,10,10,1,0,9;");
        int[] due = {5, 0, 1, 2, 3, 4};
        for (int k = 0; k < 6; k++) {
            Check.due("best(" + k + ") of six", x.best(k), due[k]);
        }
        Check.due("best(-1) of six", x.best(-1), 6);
        Check.due("best(-1) of none", new BathNight().best(-1), 0);
        Check.due("best(0) of none", new BathNight().best(0), BathNight.BAD);
    }

    private static void swapped() {
        BathNight x = Check.laid("t1,60,10,50,0;b5,10,10,5,0,10;b5,10,10,2,0,2;");
        Check.due("swapped()", x.swapped(), 1);
        Check.due("row(0, 1)", x.row(0, 1), 1);
        Check.due("score(0, 2)", x.score(0, 2), 7);
        Check.due("swapped() again", x.swapped(), 0);
        // 3, 2 and 1 steps, to be done by 99, 3 and 1: 1 0 2 leaves one late, as 1 2 0 does
        x = Check.laid("t1,60,10,50,0;b5,10,10,3,0,99;b5,10,10,2,0,3;b5,10,10,1,0,1;");
        Check.due("score(0, 2)", x.score(0, 2), 206);
        Check.due("swapped()", x.swapped(), 1);
        Check.due("score(0, 2)", x.score(0, 2), 106);
        Check.due("row(0, 1)", x.row(0, 1), 1);
        Check.due("swapped() of none", new BathNight().swapped(), 0);
        // 0 1 2 by 1 0 2 (done by 6) and 1 2 0 (by 5); 2 1 0 is no less
        x = Check.laid("t1,60,10,50,0;b5,10,10,1,4,99;b5,10,10,1,2,99;b5,10,10,1,0,99;");
        Check.due("score(0, 2)", x.score(0, 2), 7);
        Check.due("swapped()", x.swapped(), 2);
        Check.due("score(0, 2)", x.score(0, 2), 5);
        Check.due("row(0, 1)", x.row(0, 1), 1);
        Check.due("row(1, 2)", x.row(1, 2), 2);
        // 0 1 2 (308), 1 0 2 (209), 1 2 0 (109), and again from the front: 2 1 0 (108)
        x = Check.laid("t1,60,10,50,0;b5,10,10,2,4,5;b5,10,10,1,5,6;b5,10,10,1,4,7;");
        Check.due("score(0, 2)", x.score(0, 2), 308);
        Check.due("swapped()", x.swapped(), 3);
        Check.due("score(0, 2)", x.score(0, 2), 108);
        Check.due("row(0, 2)", x.row(0, 2), 2);
        Check.due("row(1, 1)", x.row(1, 1), 1);
    }

    private static void when() {
        String house = "t1,10,10,10,0;f3,300,30;b10,30,40,1,0,20;n10;";
        for (int rule = 0; rule < 4; rule++) {
            BathNight x = Check.laid(house);
            x.hot(20);
            Check.due("score(" + rule + ", 2)", x.score(rule, 2), 199);
            // without a fire to make up, this one is
            Check.due("when(" + rule + ", 0)", x.when(rule, 0), 0);
            Check.due("when(" + rule + ", 1)", x.when(rule, 1), 2);
            x.plan(0, true);
            // the one more goes to the step planned, the first
            Check.due("when(" + rule + ", 0) with 0", x.when(rule, 0), 1);
            Check.due("when(" + rule + ", 1) with 0", x.when(rule, 1), 2);
            Check.due("count(4)", x.count(4), 1);
            Check.due("count(6)", x.count(6), 0);
        }
        // warm just when it comes: at step 4 it is 40, at any other too cold or gone by
        BathNight x = Check.laid("t1,10,10,10,100;f3,400,1;b10,40,40,1,4,20;n10;");
        Check.due("when(0, 0)", x.when(0, 0), 3);
        Check.due("when(0, 1)", x.when(0, 1), 5);
        for (int t = 0; t < 9; t++) {
            x.plan(t, true);
        }
        Check.due("when(0, 0) of all but one", x.when(0, 0), 9);
        x.plan(9, true);
        Check.due("when(0, 0) of all", x.when(0, 0), NONE);
        Check.due("when(0, 1) of all", x.when(0, 1), NONE);
    }

    private static void isFewest(String text, int many, int first, int second) {
        BathNight x = Check.laid(text);
        x.plan(7, true);
        Check.due(text + " fewest(0, 0)", x.fewest(0, 0), many);
        Check.due(text + " fewest(0, 1)", x.fewest(0, 1), first);
        Check.due(text + " fewest(0, 2)", x.fewest(0, 2), second);
        Check.due(text + " plan(7, true)", x.plan(7, true), 1);
        Check.due(text + " count(4)", x.count(4), 1);
    }

    private static void fewest() {
        // a fire is ten degrees more, for good
        String house = "t1,10,10,10,0;f3,100,1;n8;";
        isFewest(house + "c2;b10,10,40,1,0,20;", 0, NONE, NONE);
        isFewest(house + "c2;b10,20,40,1,0,20;", 1, 0, NONE);
        isFewest(house + "c2;b10,30,40,1,0,20;", 2, 0, 1);
        isFewest(house + "c1;b10,30,40,1,0,20;", NONE, NONE, NONE);
        isFewest(house + "c2;b10,40,40,1,0,20;", NONE, NONE, NONE);
        isFewest(house + "c0;b10,20,40,1,0,20;", NONE, NONE, NONE);
        isFewest(house + "c9;", 0, NONE, NONE);
        // warm for one step alone: at 4, and at 6
        String cooling = "t1,10,10,10,200;f3,500,1;n8;c2;b10,40,40,1,4,5;";
        isFewest(cooling, 1, 3, NONE);
        isFewest(cooling + "b10,40,40,1,6,7;", 2, 3, 5);
    }

    private static void bigger() {
        // ten pints of 50 are too few for it, twenty are enough
        BathNight x = Check.laid("t1,10,10,50,0;b15,50,50,1,0,9;");
        Check.due("bigger(0, 0)", x.bigger(0, 0), 1);
        for (int k = 1; k < 4; k++) {
            Check.due("bigger(0, " + k + ")", x.bigger(0, k), 199);
        }
        Check.due("count(1)", x.count(1), 1);
        // seven units lost a step, three if half: at step 1 they are 43 and 47 of 50
        x = Check.laid("t1,1,10,50,7;b1,47,50,1,1,9;");
        Check.due("score(0, 2)", x.score(0, 2), 199);
        Check.due("bigger(0, 1)", x.bigger(0, 1), 2);
        x = Check.laid("t1,1,10,50,7;b1,48,50,1,1,9;");
        Check.due("bigger(0, 1)", x.bigger(0, 1), 199);
        // 19 and a tenth, cut, are 20
        String fire = "t1,1,10,10,0;c1;f3,19,1;";
        x = Check.laid(fire + "b1,30,30,1,0,9;");
        x.plan(0, true);
        Check.due("score(0, 2)", x.score(0, 2), 199);
        Check.due("bigger(0, 2)", x.bigger(0, 2), 2);
        x = Check.laid(fire + "b1,31,99,1,0,9;");
        x.plan(0, true);
        Check.due("bigger(0, 2)", x.bigger(0, 2), 199);
        // the lower stages, too: 20 and 22, 10 and 11
        x = Check.laid("t1,1,10,10,0;c1;f2,20,1;f1,10,1;b1,43,43,1,0,9;");
        x.plan(0, true);
        Check.due("bigger(0, 2)", x.bigger(0, 2), 4);
        // ten more pints of 100 in twenty: 55 degrees; hot as before
        x = Check.laid("t1,1,10,10,0;b20,55,55,1,0,9;");
        Check.due("score(0, 2)", x.score(0, 2), 199);
        Check.due("bigger(0, 3)", x.bigger(0, 3), 2);
        x = Check.laid("t1,1,10,10,0;b30,99,99,1,0,9;b30,0,99,1,0,9;k20,4;");
        Check.due("bigger(1, 3) of twenty", x.bigger(1, 3), 199);
        x = Check.laid("t1,1,10,10,0;b60,55,55,1,0,9;k20,4;");
        Check.due("bigger(1, 3) of twenty", x.bigger(1, 3), 5);
        x = Check.laid("t6,1,10,10,0;");
        Check.due("bigger(0, 0) of six", x.bigger(0, 0), BathNight.NO);
        Check.due("bigger(0, 1) of six", x.bigger(0, 1), 0);
        Check.due("bigger(4, 0) of six", x.bigger(4, 0), BathNight.BAD);
        x = Check.laid("t5,1,10,10,0;");
        Check.due("bigger(0, 0) of five", x.bigger(0, 0), 0);
    }

    private static void tap() {
        BathNight x = Check.laid("t1,10,10,50,0;b10,50,50,1,2,9;");
        Check.due("tap(0, 0, 1, 1)", x.tap(0, 0, 1, 1), 199);
        Check.due("tap(0, 1, 1, 99)", x.tap(0, 1, 1, 99), 199);
        // behind the tub
        Check.due("tap(0, 2, 60, 99)", x.tap(0, 2, 60, 99), 3);
        Check.due("tap(0, 59, 60, 99)", x.tap(0, 59, 60, 99), 3);
        Check.due("score(0, 2)", x.score(0, 2), 3);
        // three steps of two pints, no more: four of the ten pints are hot at step 3
        x = Check.laid("t1,10,0,50,0;b10,20,50,1,0,9;b10,10,50,1,4,9;");
        Check.due("tap(0, 0, 1, 60)", x.tap(0, 0, 1, 60), 199);
        Check.due("tap(0, 0, 2, 3)", x.tap(0, 0, 2, 3), 5);
        Check.due("tap(0, 0, 3, 3)", x.tap(0, 0, 3, 3), 5);
        Check.due("tap(0, 0, 4, 3)", x.tap(0, 0, 4, 3), 199);
        // the row of bad numbers
        int[][] bad = {{-1, 0, 1, 1}, {4, 0, 1, 1}, {0, -1, 1, 1}, {0, 60, 1, 1}, {0, 0, 0, 1}, {0, 0, 61, 1}, {0, 0, 1, 0},
            {0, 0, 1, 100}};
        for (int[] b : bad) {
            Check.due("tap(" + b[0] + ", " + b[1] + ", " + b[2] + ", " + b[3] + ")", x.tap(b[0], b[1], b[2], b[3]), BathNight.BAD);
        }
    }

    private static void tenths() {
        BathNight x = Check.laid("t1,10,10,50,0;b5,10,10,1,2,9;");
        Check.due("tenths(0, 0)", x.tenths(0, 0), 10);
        Check.due("tenths(5, 10)", x.tenths(5, 10), 0);
        Check.due("tenths(5, 7)", x.tenths(5, 7), 10);
        Check.due("tenths(6, 1)", x.tenths(6, 1), BathNight.BAD);
        Check.due("tenths(-1, 1)", x.tenths(-1, 1), BathNight.BAD);
        Check.due("tenths(5, 11)", x.tenths(5, 11), BathNight.BAD);
        Check.due("tenths(5, -1)", x.tenths(5, -1), BathNight.BAD);
        Check.due("tenths(5, 10)", x.tenths(5, 10), 7);
    }

    private static void told() {
        // bather 0 is in till 5; 1 can be in at 5 however early it comes
        BathNight x = Check.laid("t1,10,10,50,0;b5,10,10,5,0,9;b5,10,10,1,3,9;");
        Check.due("told(0, 1, 0)", x.told(0, 1, 0), 3);
        Check.due("told(0, 1, 1)", x.told(0, 1, 1), 60);
        x.tenths(0, 4);
        Check.due("told(0, 1, 0) of four", x.told(0, 1, 0), BathNight.NO);
        Check.due("told(0, 1, 1) of four", x.told(0, 1, 1), BathNight.NO);
        Check.due("told(0, 1, 2) of four", x.told(0, 1, 2), BathNight.BAD);
        x.tenths(5, 6);
        // six tenths come five steps later: told at 0, at 5
        Check.due("told(0, 1, 0)", x.told(0, 1, 0), 0);
        Check.due("told(0, 1, 1)", x.told(0, 1, 1), 60);
        x.tenths(4, 6);
        Check.due("told(0, 1, 0) of sixteen", x.told(0, 1, 0), BathNight.NO);
        x.tenths(5, 0);
        Check.due("told(0, 1, 0)", x.told(0, 1, 0), 1);
        // bather 0 is there from 0: told then it comes at 0 or 4
        Check.due("told(0, 0, 0)", x.told(0, 0, 0), 0);
        Check.due("told(0, 0, 1)", x.told(0, 0, 1), 4 * 6 + 6 * 10 + 6 * 100);
        // as told it comes from its own step on
        Check.due("score(0, 2)", x.score(0, 2), 6);
    }

    private static void looks() {
        BathNight x = Check.laid("t1,10,10,50,0;b5,10,10,2,0,9;b5,10,10,2,0,9;");
        Check.due("looks(6)", x.looks(6), 2);
        Check.due("looks(0)", x.looks(0), 0);
        Check.due("looks(1)", x.looks(1), 2);
        Check.due("looks(2)", x.looks(2), BathNight.BAD);
        Check.due("looks(-1)", x.looks(-1), BathNight.BAD);
        Check.due("looks(7)", x.looks(7), BathNight.BAD);
        // it is by DOOR, whatever the ROW
        x.row(0, 1);
        Check.due("looks(0) with a row", x.looks(0), 0);
        Check.due("looks(1) with a row", x.looks(1), 2);
        // as told both are there from 0 on
        Check.due("evening(1, 1, 0)", x.evening(1, 1, 0), 2);
        Check.due("looks(6) of none", new BathNight().looks(6), 1);
        Check.due("looks(0) of none", new BathNight().looks(0), BathNight.BAD);
        // who never can be in takes the least
        x = Check.laid("t1,10,10,50,0;b5,90,99,2,3,9;");
        Check.due("looks(6) of one that can't", x.looks(6), 1);
        Check.due("looks(0) of one that can't", x.looks(0), 0);
        // one warm minute at step 4, for who is there: the waits are what is left to choose by
        x = Check.laid("t1,1,10,10,0;f3,40,1;c1;b1,50,50,1,1,9;n20;");
        x.plan(3, true);
        Check.due("looks(6)", x.looks(6), 2);
        Check.due("looks(0)", x.looks(0), 3);
    }

    /** One that can from step 6 on, one always, one at once: who yields to whom takes three rounds. */
    private static void looksOfThree() {
        BathNight x = Check.laid("t1,10,0,50,17;b4,5,9,1,0,9;b5,0,2,2,3,9;b2,0,2,4,2,9;n10;");
        int[] due = {5, 4, 0};
        for (int i = 0; i < 3; i++) {
            Check.due("looks(" + i + ") of three", x.looks(i), due[i]);
        }
        Check.due("looks(6) of three", x.looks(6), 3);
    }

    /** Bather 0 would come when 1 does not, and 1 when 0 does: they never come to rest. */
    private static void looksWithoutEnd() {
        BathNight x = Check.laid("t1,10,0,50,8;b5,0,9,2,3,9;b4,7,11,2,2,9;n10;");
        Check.due("looks(6) without end", x.looks(6), NONE);
        Check.due("looks(0) without end", x.looks(0), NONE);
        Check.due("looks(1) without end", x.looks(1), NONE);
        Check.due("looks(2) without end", x.looks(2), BathNight.BAD);
        Check.due("evening(1, 0, 0)", x.evening(1, 0, 0), 5);
    }

    private static void wrongly() {
        BathNight x = Check.laid("t6,10,10,50,0;b5,10,10,2,0,9;n1;");
        x.plan(0, true);
        x.tenths(0, 0);
        for (int rule : new int[] {-1, 4}) {
            Check.due("when(" + rule + ", 0)", x.when(rule, 0), BathNight.BAD);
            Check.due("fewest(" + rule + ", 0)", x.fewest(rule, 0), BathNight.BAD);
            Check.due("bigger(" + rule + ", 0)", x.bigger(rule, 0), BathNight.BAD);
            Check.due("told(" + rule + ", 0, 0)", x.told(rule, 0, 0), BathNight.BAD);
        }
        int[][] bad = {{-1, -1, -1}, {2, 3, 4}};
        for (int[] what : bad) {
            Check.due("when(0, " + what[0] + ")", x.when(0, what[0]), BathNight.BAD);
            Check.due("fewest(0, " + what[1] + ")", x.fewest(0, what[1]), BathNight.BAD);
            Check.due("bigger(0, " + what[2] + ")", x.bigger(0, what[2]), BathNight.BAD);
            Check.due("told(0, 0, " + what[0] + ")", x.told(0, 0, what[0]), BathNight.BAD);
        }
        Check.due("told(0, 1, 0)", x.told(0, 1, 0), BathNight.BAD);
        Check.due("told(0, -1, 0)", x.told(0, -1, 0), BathNight.BAD);
        Check.due("when(0, 0)", x.when(0, 0), NONE);
        Check.due("bigger(0, 0)", x.bigger(0, 0), BathNight.NO);
        Check.due("told(0, 0, 0)", x.told(0, 0, 0), BathNight.NO);
    }
}
