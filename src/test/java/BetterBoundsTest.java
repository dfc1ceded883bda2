/**
 * BEST ROW, SWAPPED, WHEN, FEWEST, BIGGER, TAP, TOLD, LOOKS and KEPT at their bounds (promises 15
 * to 26): the first of those alike, the last step and the last round, and what there is none of.
 */
public final class BetterBoundsTest {
    private static final int BAD = BathNight.BAD, NO = BathNight.NO, FULL = BathNight.FULL, NONE = BathNight.NONE;
    private static final String TANK = "t1,60,0,50,0;";

    public static void main(String[] args) {
        bestOfEveryRow();
        bestOfSix();
        bestIsTheFirst();
        bestPlaces();
        swappedIsLess();
        swappedOfTheRow();
        whenNotPlannedYet();
        whenAtTheEnds();
        whenOnceMore();
        whenTheLeast();
        fewestAtTheEnds();
        fewestAsKIs();
        fewestNone();
        biggerByALayer();
        biggerByLoss();
        biggerByFire();
        biggerByKettle();
        biggerInAllElse();
        tapSteps();
        tapPints();
        tapIsOver();
        tenthsTogether();
        toldTheLatest();
        toldWithin();
        looksWithin();
        looksLeast();
        looksNever();
        looksTwelveRounds();
        looksOfNobody();
        keptAreTwo();
        counts();
        Check.end();
    }

    /** A house of those who must go in at the steps that their places tell, and are done at the next. */
    private static String inThisRow(int[] row) {
        StringBuilder s = new StringBuilder(TANK);
        for (int i = 0; i < row.length; i++) {
            for (int k = 0; k < row.length; k++) {
                if (row[k] == i) {
                    s.append("b1,0,99,1,").append(k).append(',').append(k + 1).append(';');
                }
            }
        }
        return s.toString();
    }

    private static int[] rowOf(int number, int n) {
        int[] row = new int[n];
        boolean[] used = new boolean[n];
        for (int k = 0; k < n; k++) {
            int skip = number % (n - k);
            number /= n - k;
            int i = 0;
            while (used[i] || skip-- > 0) {
                i++;
            }
            used[i] = true;
            row[k] = i;
        }
        return row;
    }

    private static void bestIs(BathNight x, int score, int... row) {
        for (int k = 0; k < row.length; k++) {
            Check.due("best(" + k + ")", x.best(k), row[k]);
        }
        Check.due("best(-1)", x.best(-1), score);
    }

    /** "of all rows .. of the least SCORE by ROW": each row of up to four is the best of one house. */
    private static void bestOfEveryRow() {
        int rows = 1;
        for (int n = 1; n <= 4; n++) {
            rows *= n;
            for (int number = 0; number < rows; number++) {
                int[] row = rowOf(number, n);
                BathNight x = Check.laid(inThisRow(row));
                // wherever the search begins
                x.row(0, n - 1);
                bestIs(x, n, row);
            }
        }
    }

    private static void bestOfSix() {
        for (int number = 0; number < 720; number += 71) {
            int[] row = rowOf(number, 6);
            bestIs(Check.laid(inThisRow(row)), 6, row);
        }
        bestIs(Check.laid(inThisRow(new int[] {5, 4, 3, 2, 1, 0})), 6, 5, 4, 3, 2, 1, 0);
        bestIs(Check.laid(inThisRow(new int[] {4, 3, 2, 1, 0})), 5, 4, 3, 2, 1, 0);
    }

    /** "(by their numbers, the first lowest, then the second, ..) the first". */
    private static void bestIsTheFirst() {
        String any = "b1,0,99,1,0,99;";
        bestIs(Check.laid(TANK + any + any + any + any + any + any), 6, 0, 1, 2, 3, 4, 5);
        // 2 must be the first one, 1 the last one, 1 ahead of 0
        bestIs(Check.laid(TANK + any + any + "b1,0,99,1,0,1;"), 3, 2, 0, 1);
        bestIs(Check.laid(TANK + any + "b1,0,99,1,2,99;" + any), 3, 0, 2, 1);
        bestIs(Check.laid(TANK + any + any + any + "a0,1;"), 3, 1, 0, 2);
        bestIs(Check.laid(TANK + any + any + any + any + "a0,3;"), 4, 1, 2, 3, 0);
        // all rows alike bad: the first of all
        bestIs(Check.laid(TANK + "b1,60,99,1,0,0;".repeat(4)), 499, 0, 1, 2, 3);
        BathNight x = Check.laid(TANK + any + any + any);
        x.row(0, 2);
        bestIs(x, 3, 0, 1, 2);
        Check.due("row(0, 2): best() leaves the ROW", x.row(0, 2), 2);
    }

    /** "who is at its place k (k = -1: its SCORE). BAD". */
    private static void bestPlaces() {
        for (int n = 0; n <= 6; n++) {
            BathNight x = Check.laid(TANK + "b1,0,99,1,0,99;".repeat(n));
            for (int k = -2; k <= 7; k++) {
                Check.due("best(" + k + ") of " + n, x.best(k), k == -1 ? n : k >= 0 && k < n ? k : BAD);
            }
        }
    }

    private static void rowIs(BathNight x, int... row) {
        for (int k = 0; k < row.length; k++) {
            Check.due("row(" + k + ", " + row[k] + ")", x.row(k, row[k]), row[k]);
        }
    }

    /** "by whose change of places SCORE is less": as much is not less. */
    private static void swappedIsLess() {
        for (int n = 0; n <= 6; n++) {
            BathNight x = Check.laid(TANK + "b1,0,99,1,0,99;".repeat(n));
            Check.due("swapped() of " + n + " alike", x.swapped(), 0);
            for (int k = 0; k < n; k++) {
                Check.due("row(" + k + ", k) of " + n + " alike", x.row(k, k), k);
            }
        }
        // one step less is less
        BathNight x = Check.laid(TANK + "b1,0,99,1,1,99;b1,0,99,1,0,99;");
        Check.due("score(0, 2)", x.score(0, 2), 3);
        Check.due("swapped()", x.swapped(), 1);
        Check.due("score(0, 2)", x.score(0, 2), 2);
        rowIs(x, 1, 0);
        // the last two side by side
        x = Check.laid(TANK + "b1,0,99,1,0,1;b1,0,99,1,1,2;b1,0,99,1,2,3;b1,0,99,1,3,4;b1,0,99,1,5,99;b1,0,99,1,4,5;");
        Check.due("swapped() of the last two", x.swapped(), 1);
        rowIs(x, 0, 1, 2, 3, 5, 4);
        Check.due("swapped() again", x.swapped(), 0);
    }

    /** "from the ROW": where the ROW stands, not from the numbers. */
    private static void swappedOfTheRow() {
        String three = TANK + "b1,0,99,1,0,99;b1,0,99,1,1,99;b1,0,99,1,2,99;";
        Check.due("swapped() of 0 1 2", Check.laid(three).swapped(), 0);
        BathNight x = Check.laid(three);
        x.row(0, 2);
        // 2 1 0 is done by 5, 1 2 0 by 4, and 1 0 2 by 4, too
        Check.due("score(0, 2) of 2 1 0", x.score(0, 2), 5);
        Check.due("swapped() of 2 1 0", x.swapped(), 1);
        rowIs(x, 1, 2, 0);
        Check.due("score(0, 2) of 1 2 0", x.score(0, 2), 4);
        x = Check.laid(three);
        x.row(1, 2);
        // 0 2 1 is done by 4, 2 0 1 by 5, 0 1 2 by 3
        Check.due("swapped() of 0 2 1", x.swapped(), 1);
        rowIs(x, 0, 1, 2);
    }

    /** "(0 to N less 1, not planned yet)"; "NONE: all are planned". */
    private static void whenNotPlannedYet() {
        for (int n : new int[] {1, 2, 31, 32, 33, 59, 60}) {
            BathNight x = Check.laid(TANK + "n" + n + ";b1,0,99,1,0,99;");
            for (int t = 0; t < n; t++) {
                Check.due("when(1, 0) of " + n + ", " + t + " planned", x.when(1, 0), t);
                Check.due("when(1, 1) of " + n + ", " + t + " planned", x.when(1, 1), 1);
                x.plan(t, true);
            }
            Check.due("when(1, 0) of " + n + ", all planned", x.when(1, 0), NONE);
            Check.due("when(1, 1) of " + n + ", all planned", x.when(1, 1), NONE);
            Check.due("when(1, 2) of " + n + ", all planned", x.when(1, 2), BAD);
            Check.due("when(4, 0) of " + n + ", all planned", x.when(4, 0), BAD);
            x.plan(n - 1, false);
            Check.due("when(1, 0) of " + n + ", one not planned", x.when(1, 0), n - 1);
        }
        // what is planned behind the last step does not matter
        BathNight x = Check.laid(TANK + "n2;");
        for (int t = 2; t < 60; t++) {
            x.plan(t, true);
        }
        Check.due("when(0, 0)", x.when(0, 0), 0);
        x.plan(0, true);
        Check.due("when(0, 0)", x.when(0, 0), 1);
    }

    /** A fire at the first step, at the last one that is of use. */
    private static void whenAtTheEnds() {
        // 40 degrees at the step behind the fire alone
        String house = "t1,10,10,10,300;f3,600,1;n60;b10,40,40,1,";
        for (int from : new int[] {1, 2, 58, 59}) {
            BathNight x = Check.laid(house + from + ",99;");
            for (int rule = 0; rule < 4; rule++) {
                x.hot(40);
                Check.due("when(" + rule + ", 0) for " + from, x.when(rule, 0), from - 1);
                Check.due("when(" + rule + ", 1) for " + from, x.when(rule, 1), from + 1);
            }
        }
        // there is no step ahead of 0: none helps, the least of all alike
        BathNight x = Check.laid("t1,10,10,10,300;f3,600,1;n1;b10,40,40,1,0,99;");
        Check.due("when(0, 0) for 0", x.when(0, 0), 0);
        Check.due("when(0, 1) for 0", x.when(0, 1), 199);
    }

    /** "(once more than K)": one more, no two. */
    private static void whenOnceMore() {
        // each fire is ten degrees for good, and each is needed
        for (int fires = 0; fires <= 9; fires++) {
            for (int needed = fires; needed <= fires + 2 && needed < 10; needed++) {
                BathNight x = Check.laid("t1,10,0,0,0;f3,100,1;n20;c" + fires + ";b1," + 10 * needed + ",99,1,0,99;");
                for (int t = 0; t < 12; t++) {
                    x.plan(t, true);
                }
                Check.due("score(0, 2) by " + fires, x.score(0, 2), needed <= fires ? needed + 1 : 199);
                Check.due("when(0, 0) by " + fires, x.when(0, 0), 12);
                Check.due("when(0, 1) by " + fires, x.when(0, 1), needed <= fires + 1 ? needed + 1 : 199);
                Check.due("count(6) as it was", x.count(6), fires);
                Check.due("count(4) as it was", x.count(4), 12);
            }
        }
    }

    /** "has the least SCORE by a RULE, the least": the lowest of those alike. */
    private static void whenTheLeast() {
        // any step up to 4 makes it warm by 5
        BathNight x = Check.laid("t1,10,0,0,0;f3,400,1;b1,40,40,1,5,99;n10;");
        Check.due("when(0, 0)", x.when(0, 0), 0);
        Check.due("when(0, 1)", x.when(0, 1), 6);
        x.plan(0, true);
        x.plan(1, true);
        Check.due("when(0, 0) of the others", x.when(0, 0), 2);
        // all the others are no better than none: the least of them
        x = Check.laid("t1,10,0,0,0;f3,400,1;b1,99,99,1,5,99;n10;");
        Check.due("when(0, 0) of none better", x.when(0, 0), 0);
        Check.due("when(0, 1) of none better", x.when(0, 1), 199);
    }

    private static void fewestIs(BathNight x, int rule, int... due) {
        for (int what = 0; what < 3; what++) {
            Check.due("fewest(" + rule + ", " + what + ")", x.fewest(rule, what), due[what]);
        }
        Check.due("fewest(" + rule + ", -1)", x.fewest(rule, -1), BAD);
        Check.due("fewest(" + rule + ", 3)", x.fewest(rule, 3), BAD);
    }

    /** "of all PLANS of 0, 1 or 2 STEPS", the first and the last step; "(of several PLANS the first ..)". */
    private static void fewestAtTheEnds() {
        String house = "t1,10,10,10,300;f3,600,1;n60;c2;";
        for (int rule = 1; rule < 4; rule++) {
            String one = "b10,40,40,1,59,60;";
            BathNight x = Check.laid(house + one);
            x.hot(40);
            fewestIs(x, rule, 1, 58, NONE);
            x = Check.laid(house + "b10,40,40,1,1,2;" + one);
            x.hot(40);
            fewestIs(x, rule, 2, 0, 58);
            x = Check.laid(house + "b10,40,40,1,57,58;" + one);
            x.hot(40);
            fewestIs(x, rule, 2, 56, 58);
        }
        // any step up to 4 will do: the first; any two: the first and the second
        BathNight x = Check.laid("t1,10,0,0,0;f3,400,1;c2;b1,40,40,1,5,6;");
        fewestIs(x, 0, 1, 0, NONE);
        x = Check.laid("t1,10,0,0,0;f3,400,1;c2;b1,80,80,1,5,6;");
        fewestIs(x, 0, 2, 0, 1);
        // the first may be any one up to 2, the second is at 7 alone
        x = Check.laid("t1,1,0,0,1;f3,9,1;c2;b1,1,9,1,3,4;b1,8,8,1,8,9;");
        fewestIs(x, 0, 2, 0, 7);
        // nobody, and one who is on time as it is: none is needed
        fewestIs(new BathNight(), 0, 0, NONE, NONE);
        fewestIs(Check.laid(house + "b10,10,10,1,5,6;"), 0, 0, NONE, NONE);
        // just late is late: at step 1 at the earliest
        fewestIs(Check.laid("t1,10,0,0,0;f3,400,1;c2;b1,40,40,1,0,2;"), 0, 1, 0, NONE);
        fewestIs(Check.laid("t1,10,0,0,0;f3,400,1;c2;b1,40,40,1,0,1;"), 0, NONE, NONE, NONE);
    }

    /** "(K as it is)". */
    private static void fewestAsKIs() {
        String house = "t1,10,0,0,0;f3,100,1;n20;";
        for (int fires = 0; fires <= 3; fires++) {
            for (int needed = 0; needed <= 3; needed++) {
                BathNight x = Check.laid(house + "c" + fires + ";b1," + 10 * needed + ",99,1,0,99;");
                x.plan(19, true);
                if (needed <= fires && needed <= 2) {
                    fewestIs(x, 0, needed, needed > 0 ? 0 : NONE, needed > 1 ? 1 : NONE);
                } else {
                    fewestIs(x, 0, NONE, NONE, NONE);
                }
                Check.due("plan(19, true) as it was", x.plan(19, true), 1);
                Check.due("count(4) as it was", x.count(4), 1);
            }
        }
    }

    /** "none", and BAD ahead of it. */
    private static void fewestNone() {
        BathNight x = Check.laid(TANK + "n1;c9;b1,60,99,1,0,99;");
        for (int rule = -1; rule <= 4; rule++) {
            for (int what = -1; what <= 3; what++) {
                boolean bad = rule < 0 || rule > 3 || what < 0 || what > 2;
                Check.due("fewest(" + rule + ", " + what + ")", x.fewest(rule, what), bad ? BAD : NONE);
            }
        }
    }

    /** "0: a LAYER more, at first H, too"; "NO: THE TANK has 6 LAYERS (k 0)". */
    private static void biggerByALayer() {
        for (int layers = 1; layers <= 6; layers++) {
            // a bath of all that the tank holds and a pint of the layer that would be more
            BathNight x = Check.laid("t" + layers + ",3,0,50,0;b" + (3 * layers + 1) + ",50,50,1,0,9;");
            Check.due("score(0, 2) of " + layers, x.score(0, 2), 199);
            Check.due("bigger(0, 0) of " + layers, x.bigger(0, 0), layers < 6 ? 1 : NO);
            Check.due("bigger(3, 0) of " + layers, x.bigger(3, 0), layers < 6 ? 1 : NO);
            Check.due("bigger(4, 0) of " + layers, x.bigger(4, 0), BAD);
            Check.due("bigger(-1, 0) of " + layers, x.bigger(-1, 0), BAD);
            Check.due("bigger(0, -1) of " + layers, x.bigger(0, -1), BAD);
            Check.due("bigger(0, 4) of " + layers, x.bigger(0, 4), BAD);
            for (int k = 1; k <= 3; k++) {
                Check.due("bigger(0, " + k + ") of " + layers, x.bigger(0, k), 199);
            }
            Check.due("count(1) of " + layers, x.count(1), layers);
        }
        // the fire is below the new one: of its ten units five come up
        BathNight x = Check.laid("t1,1,0,0,0;f3,10,1;c1;b1,5,5,1,1,9;");
        x.plan(0, true);
        Check.due("score(0, 2)", x.score(0, 2), 199);
        Check.due("bigger(0, 0)", x.bigger(0, 0), 2);
        // it loses as the others do: 50 and 50 less 5 are 90, not 95
        x = Check.laid("t1,1,0,50,5;b2,45,45,1,1,9;b2,46,99,1,1,9;");
        Check.due("bigger(1, 0)", x.bigger(1, 0), 199);
    }

    private static void biggerIs(String house, int k, int due) {
        BathNight x = Check.laid(house);
        x.plan(0, true);
        Check.due(house + " bigger(0, " + k + ")", x.bigger(0, k), due);
    }

    /** "1: each LAYER loses half, cut". */
    private static void biggerByLoss() {
        int[][] due = {{0, 0}, {1, 0}, {2, 1}, {3, 1}, {7, 3}, {50, 25}};
        for (int[] one : due) {
            int heat = 90 - one[1];
            biggerIs("t1,1,0,90," + one[0] + ";b1," + heat + "," + heat + ",1,1,2;", 1, 2);
            biggerIs("t1,1,0,90," + one[0] + ";b1," + (heat + 1) + ",99,1,1,2;", 1, 199);
        }
        // 60 pints of 95 less 499
        biggerIs("t1,60,0,95,999;b60,86,86,1,1,2;", 1, 2);
        biggerIs("t1,60,0,95,998;b60,86,86,1,1,2;", 1, 2);
    }

    /** "2: STAGES give a tenth more, cut". */
    private static void biggerByFire() {
        int[][] due = {{0, 0}, {1, 1}, {9, 9}, {10, 11}, {19, 20}, {20, 22}, {89, 97}};
        for (int[] one : due) {
            String bath = "b1," + one[1] + "," + one[1] + ",1,";
            biggerIs("t1,1,0,0,0;c1;f3," + one[0] + ",1;" + bath + "1,2;", 2, 2);
            biggerIs("t1,1,0,0,0;c1;f2," + one[0] + ",1;" + bath + "2,3;", 2, 3);
            biggerIs("t1,1,0,0,0;c1;f1," + one[0] + ",1;" + bath + "3,4;", 2, 4);
            biggerIs("t1,1,0,0,0;c1;f3," + one[0] + ",1;b1," + (one[1] + 1) + ",99,1,1,2;", 2, 199);
        }
        // 9999 and 999 more are 5499 in each of two layers: 91 degrees
        biggerIs("t2,60,0,0,0;c1;f3,9999,1;b60,91,91,1,1,2;", 2, 2);
        biggerIs("t2,60,0,0,0;c1;f3,9999,1;b60,92,99,1,1,2;", 2, 199);
        // they last as long as they did
        biggerIs("t1,1,0,0,0;c1;f3,10,2;b1,22,22,1,5,6;", 2, 6);
    }

    /** "3: a kettle of 10 pints more (no more than 30), R as it is". */
    private static void biggerByKettle() {
        for (int pints : new int[] {0, 1, 10, 19, 20}) {
            for (int hotBy : new int[] {1, 5, 30}) {
                int more = pints + 10;
                int heat = 100 * more / (more + 1);
                String kettle = "t1,1,0,0,0;n60;k" + pints + "," + hotBy + ";";
                // one pint more than the kettle has
                biggerIs(kettle + "b" + (more + 1) + "," + heat + "," + heat + ",1,0,99;", 3, hotBy + 1);
                biggerIs(kettle + "b" + (more + 1) + "," + (heat + 1) + ",99,1,0,99;", 3, 199);
                // just as much is too hot, a pint less is too much for it
                biggerIs(kettle + "b" + more + ",0,99,1," + hotBy + ",99;", 3, 199);
                biggerIs(kettle + "b" + (more - 1) + ",0,0,1," + hotBy + ",99;", 3, hotBy + 1);
            }
        }
        // without a kettle R is 1
        biggerIs("t1,1,0,0,0;b20,50,50,1,0,9;", 3, 2);
    }

    /** What is not made bigger stays as it is: houses in which nothing is lost and no fire gives ten. */
    private static void biggerInAllElse() {
        String[] houses = {
            "t1,10,7,50,0;b20,28,28,1,0,9;b20,7,7,1,3,9;b5,7,7,1,3,9;",
            "t1,10,0,50,0;b1,0,99,2,0,99;b1,0,99,3,0,99;b1,0,99,1,0,99;a0,1;a0,2;a1,2;",
            "t1,10,0,50,0;b10,50,50,2,0,99;b10,44,44,2,0,99;s1,0;q3;",
            "t1,10,0,50,0;b10,50,50,2,0,99;b10,48,48,2,0,99;s1,0;",
            "t1,1,0,0,0;f3,1,2;f2,2,3;f1,3,4;c1;b1,20,20,1,0,99;b1,0,0,1,0,99;a0,1;",
            "t1,1,0,0,0;f3,9,1;f2,0,9;c2;b1,18,18,1,0,99;b1,0,0,1,0,99;a0,1;",
            "t1,1,0,0,0;n7;b1,0,0,1,6,99;b1,0,0,1,7,99;",
            "t1,1,0,0,0;n60;b1,0,0,1,59,60;b1,0,0,20,3,22;",
            "t1,10,0,0,0;k5,4;b10,50,50,1,0,99;b10,50,50,1,0,99;",
            "t1,10,0,0,0;b1,0,99,5,0,99;b1,0,99,1,3,99;a0,1;",
            "t1,10,0,0,0;b1,0,99,5,7,99;b1,0,99,1,3,3;"};
        int[] due = {5, 6, 4, 4, 10, 11, 199, 160, 9, 9, 112};
        for (int h = 0; h < houses.length; h++) {
            BathNight x = Check.laid(houses[h]);
            x.plan(0, true);
            x.plan(9, true);
            Check.due(houses[h] + " score(1, 2)", x.score(1, 2), due[h]);
            Check.due(houses[h] + " bigger(1, 1)", x.bigger(1, 1), due[h]);
            Check.due(houses[h] + " bigger(1, 2)", x.bigger(1, 2), due[h]);
            // another text meanwhile is not the house
            Check.tell(x, "t3,3,3,3,3;b9,9,9,9,9,9;f1,1,1;k9,9;q9;n9;c9;");
            x.fault();
            Check.due(houses[h] + " bigger(1, 1) behind fault()", x.bigger(1, 1), due[h]);
            Check.due(houses[h] + " score(1, 2) behind all", x.score(1, 2), due[h]);
        }
        // X, ROW and PLAN are as they are
        BathNight x = Check.laid("t1,10,0,50,0;b1,50,50,2,0,2;b1,0,99,1,0,99;");
        Check.due("bigger(0, 1) in a row", x.bigger(0, 1), 3);
        x.row(0, 1);
        Check.due("bigger(0, 1) in another row", x.bigger(0, 1), 103);
        Check.due("bigger(2, 1) of 50", x.bigger(2, 1), 199);
        x.hot(45);
        Check.due("bigger(2, 1) of 45", x.bigger(2, 1), 3);
    }

    /**
     * "from STEP s (0 to 59) on, n STEPS (1 to 60)": a pint of 50 degrees is there at step 59 if all
     * was drawn at step 58, as a fire gives as much each step.
     */
    private static void tapSteps() {
        BathNight x = Check.laid("t1,10,0,50,0;f3,500,30;f2,500,30;c1;n60;b1,50,50,1,59,60;");
        x.plan(0, true);
        int[][] due = {{0, 59, 60}, {0, 58, 199}, {0, 60, 60}, {1, 58, 60}, {1, 57, 199}, {58, 1, 60}, {58, 60, 60}, {57, 2, 60},
            {57, 1, 199}, {59, 1, 199}, {59, 60, 199}};
        for (int[] one : due) {
            Check.due("tap(0, " + one[0] + ", " + one[1] + ", 10)", x.tap(0, one[0], one[1], 10), one[2]);
        }
        for (int[] one : new int[][] {{-1, 1}, {60, 1}, {0, 0}, {0, 61}, {0, -1}, {59, 61}}) {
            Check.due("tap(0, " + one[0] + ", " + one[1] + ", 10)", x.tap(0, one[0], one[1], 10), BAD);
        }
        // "behind the tub": at step 0 the bath is drawn ahead of the tap, at 1 behind it
        x = Check.laid("t1,10,0,50,0;b10,50,50,1,0,99;");
        Check.due("tap(0, 0, 60, 99)", x.tap(0, 0, 60, 99), 1);
        x = Check.laid("t1,10,0,50,0;b10,50,50,1,1,99;");
        Check.due("tap(0, 0, 1, 1)", x.tap(0, 0, 1, 1), 199);
        Check.due("tap(0, 1, 60, 99)", x.tap(0, 1, 60, 99), 2);
        // ahead of the fire: what it gives at that step is there at the next
        x = Check.laid("t1,10,0,0,0;f3,400,1;c1;b10,40,40,1,1,99;");
        x.plan(0, true);
        Check.due("tap(0, 0, 1, 10) at the fire's step", x.tap(0, 0, 1, 10), 2);
    }

    /** "p pints (1 to 99) are DRAWN (no more than THE TANK holds)". */
    private static void tapPints() {
        BathNight x = Check.laid("t2,50,0,40,0;b99,40,40,1,1,99;");
        Check.due("score(0, 2)", x.score(0, 2), 2);
        Check.due("tap(0, 0, 1, 1)", x.tap(0, 0, 1, 1), 199);
        // the upper layer is as hot as ever up to 50 pints
        x = Check.laid("t2,50,0,40,0;b50,40,40,1,1,99;");
        Check.due("tap(0, 0, 1, 50)", x.tap(0, 0, 1, 50), 2);
        Check.due("tap(0, 0, 1, 51)", x.tap(0, 0, 1, 51), 199);
        // two pints of 40 in 50 make them a degree warm, one pint does not
        x = Check.laid("t2,50,0,40,0;b50,1,1,1,1,99;");
        Check.due("tap(0, 0, 1, 98)", x.tap(0, 0, 1, 98), 2);
        Check.due("tap(0, 0, 1, 99)", x.tap(0, 0, 1, 99), 199);
        for (int holds : new int[] {1, 2, 59, 60}) {
            // one pint of 95 that is left is a degree for each
            x = Check.laid("t1," + holds + ",0,95,0;b" + holds + ",1,99,1,1,99;");
            Check.due("tap of 99 of " + holds, x.tap(1, 0, 1, 99), 199);
            Check.due("tap of one too many of " + holds, x.tap(1, 0, 1, holds + 1), 199);
            Check.due("tap of all of " + holds, x.tap(1, 0, 1, holds), 199);
            if (holds > 1) {
                Check.due("tap of all but one of " + holds, x.tap(1, 0, 1, holds - 1), 2);
            }
        }
        x = Check.laid(TANK);
        for (int wrong : new int[] {-1, 0, 100, 999}) {
            Check.due("tap(0, 0, 1, " + wrong + ")", x.tap(0, 0, 1, wrong), BAD);
        }
        Check.due("tap(-1, 0, 1, 1)", x.tap(-1, 0, 1, 1), BAD);
        Check.due("tap(4, 0, 1, 1)", x.tap(4, 0, 1, 1), BAD);
    }

    /** A tap is left on for the one answer alone. */
    private static void tapIsOver() {
        BathNight x = Check.laid("t1,10,0,50,0;c1;b10,50,50,1,1,99;");
        for (int rule = 0; rule < 4; rule++) {
            Check.due("tap(" + rule + ", 0, 60, 99)", x.tap(rule, 0, 60, 99), 199);
            Check.due("score(" + rule + ", 2)", x.score(rule, 2), 2);
            x.tap(rule, 0, 60, 99);
            Check.due("when(" + rule + ", 1)", x.when(rule, 1), 2);
            x.tap(rule, 0, 60, 99);
            Check.due("fewest(" + rule + ", 0)", x.fewest(rule, 0), 0);
            x.tap(rule, 0, 60, 99);
            Check.due("bigger(" + rule + ", 1)", x.bigger(rule, 1), 2);
            x.tap(rule, 0, 60, 99);
            // told at 0 it is there at 0
            Check.due("told(" + rule + ", 0, 1)", x.told(rule, 0, 1), 10);
            x.tap(rule, 0, 60, 99);
            Check.due("best(-1)", x.best(-1), 2);
            x.tap(rule, 0, 60, 99);
            Check.due("looks(6)", x.looks(6), 1);
        }
    }

    /** "Tenths of d: what they were. BAD"; "(10 for d 0 at first, of all alike; together 10, else NO)". */
    private static void tenthsTogether() {
        BathNight x = Check.laid(TANK + "b1,0,99,1,0,99;b1,0,99,1,0,99;");
        for (int d = -1; d <= 6; d++) {
            for (int v = -1; v <= 11; v++) {
                if (d < 0 || d > 5 || v < 0 || v > 10) {
                    Check.due("tenths(" + d + ", " + v + ")", x.tenths(d, v), BAD);
                }
            }
            if (d >= 0 && d <= 5) {
                Check.due("tenths(" + d + ", 10)", x.tenths(d, 10), d == 0 ? 10 : 0);
                Check.due("tenths(" + d + ", 0)", x.tenths(d, 0), 10);
                Check.due("tenths(" + d + ", its first)", x.tenths(d, d == 0 ? 10 : 0), 0);
            }
        }
        for (int d = 0; d <= 5; d++) {
            x.tenths(0, 0);
            x.tenths(d, 9);
            Check.due("told(1, 0, 0) of 9 at " + d, x.told(1, 0, 0), NO);
            Check.due("told(1, 0, 1) of 9 at " + d, x.told(1, 0, 1), NO);
            x.tenths(d, 10);
            Check.due("told(1, 0, 0) of 10 at " + d, x.told(1, 0, 0), 0);
            // of all alike: it is there at d and done a step later, or behind the other one
            Check.due("told(1, 0, 1) of 10 at " + d, x.told(1, 0, 1), 10 * Math.max(2, d + 1));
            Check.due("told(1, 1, 1) of 10 at " + d, x.told(1, 1, 1), 10 * Math.max(2, d + 1));
            x.tenths((d + 1) % 6, 1);
            Check.due("told(1, 0, 0) of 11 at " + d, x.told(1, 0, 0), NO);
            x.tenths(d, 9);
            Check.due("told(1, 0, 0) of 9 and 1 at " + d, x.told(1, 0, 0), 0);
            x.tenths(d, 0);
            x.tenths((d + 1) % 6, 0);
            Check.due("told(1, 0, 0) of none", x.told(1, 0, 0), NO);
        }
        for (int d = 0; d <= 5; d++) {
            x.tenths(d, 10);
        }
        Check.due("told(1, 0, 0) of sixty", x.told(1, 0, 0), NO);
        Check.due("told(4, 0, 0) of sixty", x.told(4, 0, 0), BAD);
        Check.due("told(-1, 0, 0) of sixty", x.told(-1, 0, 0), BAD);
        Check.due("told(1, 2, 0) of sixty", x.told(1, 2, 0), BAD);
        Check.due("told(1, -1, 0) of sixty", x.told(1, -1, 0), BAD);
        Check.due("told(1, 0, 2) of sixty", x.told(1, 0, 2), BAD);
        Check.due("told(1, 0, -1) of sixty", x.told(1, 0, -1), BAD);
    }

    private static void toldIs(BathNight x, int rule, int i, int step, int sum) {
        Check.due("told(" + rule + ", " + i + ", 0)", x.told(rule, i, 0), step);
        Check.due("told(" + rule + ", " + i + ", 1)", x.told(rule, i, 1), sum);
    }

    /** "the b of the least sum, the latest; the sum". */
    private static void toldTheLatest() {
        // alone it is done at b and 1
        toldIs(Check.laid(TANK + "b1,0,99,1,9,99;"), 1, 0, 0, 10);
        // the other one is in from 0 to 5: told at 5 it is done by 6 just as told at 0
        BathNight x = Check.laid(TANK + "b1,0,99,5,0,99;b1,0,99,1,9,99;");
        toldIs(x, 1, 1, 5, 60);
        x.tenths(0, 5);
        x.tenths(3, 5);
        toldIs(x, 1, 1, 2, 60);
        // at 2 the others are told as ever
        toldIs(x, 1, 0, 0, 5 * 10 + 5 * 10);
        // it can't be had at all: one sum as the other, the latest is A
        toldIs(Check.laid(TANK + "b1,60,99,1,7,99;"), 1, 0, 7, 1990);
    }

    /** "for each STEP b (0 to its A)": none behind A, none ahead of 0, and d of 0 to 5 behind b. */
    private static void toldWithin() {
        for (int from : new int[] {0, 1, 59, 60}) {
            // another one has the tub up to 79
            BathNight x = Check.laid(TANK + "n60;b1,0,99,20,59,99;b1,0,99,1," + from + ",99;a0,1;");
            toldIs(x, 1, 1, Math.min(from, 58), 790);
            x.tenths(0, 0);
            x.tenths(5, 10);
            toldIs(x, 1, 1, Math.min(from, 53), 790);
        }
        // told at 0 it comes at d
        for (int d = 0; d <= 5; d++) {
            BathNight x = Check.laid(TANK + "b1,0,99,1,0,99;");
            x.tenths(0, 0);
            x.tenths(d, 10);
            toldIs(x, 0, 0, 0, 10 * (d + 1));
        }
        // each tenth by its own: 1, 2, 1, 2, 1, 3 of them
        BathNight x = Check.laid(TANK + "b1,0,99,1,0,99;");
        int[] tenths = {1, 2, 1, 2, 1, 3};
        int sum = 0;
        for (int d = 0; d <= 5; d++) {
            x.tenths(d, tenths[d]);
            sum += tenths[d] * (d + 1);
        }
        toldIs(x, 0, 0, 0, sum);
        // there behind the last step it is not in at all
        x = Check.laid(TANK + "n5;b1,0,99,1,0,99;");
        x.tenths(0, 9);
        x.tenths(5, 1);
        toldIs(x, 0, 0, 0, 9 + 199);
        // as told it is there from its A on again
        Check.due("score(1, 2)", Check.laid(TANK + "b1,0,99,1,9,99;").score(1, 2), 10);
        x = Check.laid(TANK + "b1,0,99,1,9,99;");
        x.told(1, 0, 0);
        Check.due("score(1, 2) behind told()", x.score(1, 2), 10);
    }

    /** "each BATHER comes x STEPS (0 to 5) after A". */
    private static void looksWithin() {
        for (int fire = 0; fire <= 9; fire++) {
            // warm from the step behind the fire on: to come then is best
            BathNight x = Check.laid("t1,1,0,0,0;f3,40,1;c1;b1,40,40,1,0,99;");
            x.plan(fire, true);
            Check.due("looks(0) by a fire at " + fire, x.looks(0), Math.min(fire + 1, 5));
            Check.due("looks(6) by a fire at " + fire, x.looks(6), 2);
            Check.due("evening(1, 0, 0) by a fire at " + fire, x.evening(1, 0, 0), fire + 1);
        }
        // from 60 on there is no step for it, from 59 on one
        Check.due("looks(0) from 60", Check.laid(TANK + "n60;b1,0,99,1,60,99;").looks(0), 0);
        Check.due("looks(0) from 59", Check.laid(TANK + "n60;b1,0,99,1,59,99;").looks(0), 0);
    }

    /** "together are least, the least x". */
    private static void looksLeast() {
        // warm from step 1 on, for 0 at 1 alone; 1 in at 1 keeps 0 out, which stays at its first x
        BathNight x = Check.laid("t1,10,0,0,0;f3,100,30;c1;b1,10,10,1,1,9;b1,10,99,1,0,9;");
        x.plan(0, true);
        // coming at 0 it waits for 1 and is done by 2; at 1 the other one is ahead of it, at 2 it is done by 3
        Check.due("looks(1)", x.looks(1), 0);
        Check.due("looks(0)", x.looks(0), 0);
        Check.due("looks(6)", x.looks(6), 1);
        // one in its way up to 3: to come at 3 is to wait no more
        x = Check.laid(TANK + "b1,0,99,3,0,99;b1,0,99,1,0,99;");
        Check.due("looks(1) behind three steps", x.looks(1), 3);
        Check.due("looks(0) behind three steps", x.looks(0), 0);
        Check.due("looks(6) behind three steps", x.looks(6), 2);
        // up to 7: no x is enough, the last one waits least
        x = Check.laid(TANK + "b1,0,99,7,0,99;b1,0,99,1,0,99;");
        Check.due("looks(1) behind seven steps", x.looks(1), 5);
    }

    /** "(99: not)", "(.. 99: never)": never is worse than the longest wait. */
    private static void looksNever() {
        BathNight x = Check.laid(TANK + "n2;b1,0,99,1,0,99;");
        Check.due("looks(0) of two steps", x.looks(0), 0);
        Check.due("looks(6) of two steps", x.looks(6), 1);
        // warm at the last step alone, done by 79 behind a wait of 59; a step later the other one is first
        x = Check.laid("t1,10,0,0,0;f3,400,1;c1;n60;b10,40,40,20,0,99;b10,40,40,20,0,99;");
        x.plan(58, true);
        Check.due("looks(0) of 59 steps", x.looks(0), 0);
        Check.due("looks(1) of 59 steps", x.looks(1), 0);
        Check.due("looks(6) of 59 steps", x.looks(6), 1);
    }

    /** "(12 rounds at most): how many rounds (that last one, too); none, if 12 were not enough". */
    private static void looksTwelveRounds() {
        BathNight x = Check.laid("t3,14,0,0,37;f1,170,7;f2,190,8;c1;k1,7;b8,0,0,4,7,0;b12,0,8,5,11,0;b2,9,9,3,15,0;b9,18,19,1,14,0;"
            + "b30,0,3,5,13,0;b4,0,0,1,14,0;");
        x.plan(7, true);
        Check.due("looks(6) of twelve rounds", x.looks(6), 12);
        int[] due = {5, 0, 0, 0, 0, 5};
        for (int i = 0; i < 6; i++) {
            Check.due("looks(" + i + ") of twelve rounds", x.looks(i), due[i]);
        }
        // with one round more it would come to rest
        x = Check.laid("t1,9,4,5,46;f2,560,7;f3,58,8;c2;b1,10,10,6,3,0;b15,8,18,1,6,0;b20,9,15,1,6,0;b23,18,19,2,6,0;b19,20,20,3,7,0;");
        x.plan(22, true);
        for (int what = 0; what < 5; what++) {
            Check.due("looks(" + what + ") of thirteen rounds", x.looks(what), NONE);
        }
        Check.due("looks(6) of thirteen rounds", x.looks(6), NONE);
        for (int wrong : new int[] {-1, 5, 7, 60}) {
            Check.due("looks(" + wrong + ") of thirteen rounds", x.looks(wrong), BAD);
        }
    }

    /** "rounds (what = 6), x of BATHER what (0 to 5)": of those there are. */
    private static void looksOfNobody() {
        for (int n = 0; n <= 6; n++) {
            BathNight x = Check.laid(TANK + "b1,60,99,1,0,99;".repeat(n));
            for (int what = -1; what <= 7; what++) {
                Check.due("looks(" + what + ") of " + n, x.looks(what), what == 6 ? 1 : what >= 0 && what < n ? 0 : BAD);
            }
        }
    }

    /** "KEPT are ROW, X, PLAN, tenths: 2 at most". */
    private static void keptAreTwo() {
        BathNight x = Check.laid(TANK + "b1,0,99,1,0,99;".repeat(3));
        Check.due("back() of none", x.back(), NO);
        Check.due("keep() of one", x.keep(), 1);
        x.hot(1);
        x.row(0, 1);
        x.plan(1, true);
        x.tenths(1, 1);
        Check.due("keep() of two", x.keep(), 2);
        x.hot(2);
        Check.due("keep() of three", x.keep(), FULL);
        Check.due("keep() of three, again", x.keep(), FULL);
        Check.due("count(5)", x.count(5), 2);
        Check.due("hot(2) behind FULL", x.hot(2), 2);
        Check.due("back() to the second", x.back(), 1);
        Check.due("hot(1)", x.hot(1), 1);
        Check.due("row(0, 1)", x.row(0, 1), 1);
        Check.due("plan(1, true)", x.plan(1, true), 1);
        Check.due("tenths(1, 1)", x.tenths(1, 1), 1);
        // "it is KEPT no more then": there is room for one
        Check.due("keep() of two, again", x.keep(), 2);
        Check.due("keep() of three", x.keep(), FULL);
        Check.due("back()", x.back(), 1);
        Check.due("back()", x.back(), 0);
        Check.due("hot(50)", x.hot(50), 50);
        Check.due("row(0, 0)", x.row(0, 0), 0);
        Check.due("count(4)", x.count(4), 0);
        Check.due("tenths(1, 0)", x.tenths(1, 0), 0);
        Check.due("back() of none", x.back(), NO);
        Check.due("back() of none, again", x.back(), NO);
        Check.due("count(5)", x.count(5), 0);
        Check.due("keep() of one", x.keep(), 1);
        Check.due("lay()", x.lay(), 3);
        Check.due("back() behind lay()", x.back(), NO);
    }

    /** "How many: 0 BATHERS .. 6 fires that can be made up. BAD". */
    private static void counts() {
        BathNight x = Check.laid("t6,1,0,0,0;c9;n60;" + "b1,0,99,1,0,99;".repeat(6));
        for (int t = 0; t < 60; t++) {
            x.plan(t, true);
        }
        x.keep();
        x.keep();
        int length = x.count(3);
        while (x.write(8, 0) > 0) {
            length += 8;
        }
        while (x.write(1, 0) > 0) {
            length++;
        }
        Check.due("length", length, 400);
        int[] due = {6, 6, 60, 400, 60, 2, 9};
        for (int what = -2; what <= 9; what++) {
            Check.due("count(" + what + ") of the most", x.count(what), what >= 0 && what < 7 ? due[what] : BAD);
        }
    }
}
