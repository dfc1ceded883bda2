/** Promises 12 to 14: AN EVENING by each RULE, its SCORE, what is LEFT. */
public final class EveningTest {
    public static void main(String[] args) {
        oneBath();
        heatOfTank();
        fire();
        rows();
        door();
        hot();
        small();
        afterOthers();
        kettle();
        water();
        scores();
        wrongly();
        Check.end();
    }

    private static void of(BathNight x, int rule, int i, int went, int done, int heat, int drawn) {
        String call = "evening(" + rule + ", " + i + ", ";
        Check.due(call + "0)", x.evening(rule, i, 0), went);
        Check.due(call + "1)", x.evening(rule, i, 1), done);
        Check.due(call + "2)", x.evening(rule, i, 2), heat);
        Check.due(call + "3)", x.evening(rule, i, 3), drawn);
    }

    private static void never(BathNight x, int rule, int i) {
        of(x, rule, i, BathNight.NONE, BathNight.NONE, BathNight.NONE, BathNight.NONE);
    }

    private static void score(BathNight x, int rule, int late, int done) {
        Check.due("score(" + rule + ", 0)", x.score(rule, 0), late);
        Check.due("score(" + rule + ", 1)", x.score(rule, 1), done);
        Check.due("score(" + rule + ", 2)", x.score(rule, 2), 100 * late + done);
    }

    private static void oneBath() {
        for (int rule = 0; rule < 4; rule++) {
            BathNight x = Check.laid("t1,20,10,50,0;b10,30,40,4,3,7;");
            of(x, rule, 0, 3, 7, 30, 5);
            score(x, rule, 0, 7);
            // 15 pints of 50 and 5 of 10
            Check.due("left(" + rule + ", 0)", x.left(rule, 0), 40);
        }
        // in at the last step, done behind it; or there too late
        BathNight x = Check.laid("t1,20,10,50,0;b10,30,40,20,5,25;n6;");
        of(x, 0, 0, 5, 25, 30, 5);
        score(x, 0, 0, 25);
        x = Check.laid("t1,20,10,50,0;b10,30,40,20,6,25;n6;");
        never(x, 0, 0);
        score(x, 0, 1, 99);
    }

    private static void heatOfTank() {
        int[] heats = {33, 26, 19, 12, 10, 10};
        for (int n = 1; n <= heats.length; n++) {
            BathNight x = Check.laid("t1,1,10,40,7;n" + n + ";");
            Check.due("left(1, 0) of " + n, x.left(1, 0), heats[n - 1]);
        }
        // 40 units of 11 degrees and 2 pints: 22 units lose 1 to 21: 10 degrees, cut
        Check.due("left(0, 0)", Check.laid("t1,2,10,11,1;n1;").left(0, 0), 10);
        // the odd unit goes up
        BathNight x = Check.laid("t3,1,0,0,0;f3,5,30;c1;n1;");
        x.plan(0, true);
        Check.due("left(0, 0) of 5", x.left(0, 0), 2);
        Check.due("left(0, 1) of 5", x.left(0, 1), 1);
        Check.due("left(0, 2) of 5", x.left(0, 2), 2);
        // a colder layer gives nothing: after one pint of 50 is drawn, 50 50 10 stay so
        x = Check.laid("t3,1,10,50,0;b1,50,50,1,0,9;n9;");
        Check.due("left(0, 1)", x.left(0, 1), 50);
        Check.due("left(0, 2)", x.left(0, 2), 10);
        // each layer loses behind the rising: 60 and 60 rise to nothing, then lose 30 each
        x = Check.laid("t2,1,0,60,30;f3,20,1;c1;n1;");
        x.plan(0, true);
        Check.due("left(0, 0)", x.left(0, 0), 40);
        Check.due("left(0, 1)", x.left(0, 1), 40);
    }

    private static void fire() {
        int[] heats = {10, 20, 30, 35, 36, 36};
        int[] stages = {0, 3, 2, 1, 0, 0};
        for (int n = 1; n <= heats.length; n++) {
            BathNight x = Check.laid("t1,10,10,10,0;f3,100,2;f2,50,1;f1,10,1;c1;n" + n + ";");
            x.plan(1, true);
            x.plan(59, true);
            Check.due("left(0, 0) of " + n, x.left(0, 0), heats[n - 1]);
            Check.due("left(0, 6) of " + n, x.left(0, 6), n > 1 ? 0 : 1);
            Check.due("left(0, 7) of " + n, x.left(0, 7), stages[n - 1]);
        }
        // made up anew it is at stage 3 from its beginning on
        BathNight x = Check.laid("t1,10,10,10,0;f3,100,3;c2;n5;");
        x.plan(0, true);
        x.plan(2, true);
        x.plan(3, true);
        Check.due("left(0, 0)", x.left(0, 0), 60);
        Check.due("left(0, 6)", x.left(0, 6), 0);
        Check.due("left(0, 7)", x.left(0, 7), 2);
        // stages that are not told give nothing and last a step
        x = Check.laid("t1,10,10,10,0;f1,100,1;c1;n4;");
        x.plan(0, true);
        Check.due("left(0, 0)", x.left(0, 0), 20);
        // without fires it stays out
        x = Check.laid("t1,10,10,10,0;f3,100,3;n4;");
        x.plan(0, true);
        Check.due("left(0, 0)", x.left(0, 0), 10);
        Check.due("left(0, 7)", x.left(0, 7), 0);
        // it is made up ahead of the tub, but warms behind it
        x = Check.laid("t1,10,10,10,0;f3,400,1;c1;b10,50,50,1,0,9;");
        x.plan(0, true);
        of(x, 0, 0, 1, 2, 50, 10);
    }

    private static void rows() {
        BathNight x = Check.laid("t1,60,10,50,0;b4,30,40,2,5,9;b4,30,40,3,0,9;b4,90,99,1,0,9;");
        of(x, 0, 0, 5, 7, 30, 2);
        // two pints of the 2920 units by 60 are 97, cut: too few by 3 for 30 degrees
        of(x, 0, 1, 7, 10, 39, 3);
        never(x, 0, 2);
        score(x, 0, 2, 99);
        x.row(0, 1);
        of(x, 0, 1, 0, 3, 30, 2);
        of(x, 0, 0, 5, 7, 39, 3);
        score(x, 0, 1, 99);
        // the next of the row is waited for
        x.row(0, 2);
        never(x, 0, 0);
        never(x, 0, 1);
        score(x, 0, 3, 99);
    }

    private static void door() {
        BathNight x = Check.laid("t1,60,10,50,0;b9,30,40,4,1,9;b9,30,40,4,0,9;b4,30,40,3,1,9;b4,30,40,3,0,99;b4,90,99,3,0,99;");
        int[] went = {7, 0, 11, 4, BathNight.NONE};
        for (int i = 0; i < went.length; i++) {
            Check.due("evening(1, " + i + ", 0)", x.evening(1, i, 0), went[i]);
        }
        score(x, 1, 3, 99);
    }

    private static void hot() {
        // ten degrees a step: 20, 30, 40 .. at the end of step 0, 1, 2 ..
        BathNight x = Check.laid("t1,10,10,10,0;f3,100,30;c1;b1,10,99,1,0,9;b1,15,99,2,0,9;s0,1;n20;q0;");
        x.plan(0, true);
        Check.due("evening(1, 0, 0)", x.evening(1, 0, 0), 0);
        x.hot(40);
        // at step 3 layer 0 is at 40
        of(x, 2, 0, 3, 4, 10, 0);
        Check.due("evening(2, 1, 0)", x.evening(2, 1, 0), 4);
        x.hot(41);
        Check.due("evening(2, 0, 0) at 41", x.evening(2, 0, 0), 4);
        x.hot(0);
        Check.due("evening(2, 0, 0) at 0", x.evening(2, 0, 0), 0);
        // cold as it is now, who would use water goes in all the same
        x = Check.laid("t1,10,10,60,0;b10,60,60,2,0,9;b10,50,60,1,0,9;b1,10,10,1,0,9;s1,0;");
        of(x, 2, 0, 0, 2, 60, 10);
        of(x, 2, 1, 2, 3, 58, 0);
        never(x, 2, 2);
        of(x, 1, 2, 3, 4, 10, 0);
    }

    private static void small() {
        BathNight x = Check.laid("t1,60,10,50,0;b9,30,40,1,0,9;b5,10,10,1,0,9;b4,30,40,1,1,9;b5,30,40,1,0,9;");
        int[] went = {3, 0, 1, 2};
        for (int i = 0; i < went.length; i++) {
            Check.due("evening(3, " + i + ", 0)", x.evening(3, i, 0), went[i]);
        }
    }

    private static void afterOthers() {
        BathNight x = Check.laid("t1,60,10,50,0;b5,10,10,2,0,9;b5,10,10,3,0,9;b5,10,10,1,4,9;a0,1;a0,2;");
        Check.due("evening(1, 0, 0)", x.evening(1, 0, 0), 5);
        Check.due("evening(1, 1, 0)", x.evening(1, 1, 0), 0);
        Check.due("evening(1, 2, 0)", x.evening(1, 2, 0), 4);
        // two that go after each other never do
        x = Check.laid("t1,60,10,50,0;b5,10,10,2,0,9;b5,10,10,3,0,9;a0,1;a1,0;");
        score(x, 1, 2, 99);
    }

    private static void kettle() {
        BathNight x = Check.laid("t1,60,10,10,0;b20,20,60,1,0,9;b20,20,60,1,0,9;b4,20,60,1,0,9;k5,3;");
        of(x, 1, 0, 3, 4, 32, 0);
        of(x, 1, 1, 6, 7, 32, 0);
        never(x, 1, 2);
        // who uses water, or is too small for it, leaves it on
        x = Check.laid("t1,60,10,10,0;b4,10,10,1,3,9;b20,20,60,1,4,9;b20,20,60,1,5,9;s2,1;k5,3;n20;");
        of(x, 1, 0, 3, 4, 10, 0);
        of(x, 1, 1, 4, 5, 32, 0);
        of(x, 1, 2, 5, 6, 31, 0);
    }

    private static void water() {
        String two = "t1,10,10,60,0;b10,60,60,3,0,9;b10,50,58,1,0,9;s1,0;";
        BathNight x = Check.laid(two + "q2;");
        of(x, 1, 1, 3, 4, 54, 0);
        x = Check.laid(two);
        of(x, 1, 1, 3, 4, 57, 0);
        // too hot yet, too cold already
        x = Check.laid(two + "q0;");
        never(x, 1, 1);
        x = Check.laid(two + "q4;");
        never(x, 1, 1);
        // only just when the one ahead is done
        x = Check.laid("t1,10,10,60,0;b10,60,60,3,0,9;b10,50,58,1,4,9;s1,0;");
        never(x, 1, 1);
        // who may use it not, draws
        x = Check.laid("t2,10,10,60,0;b10,60,60,3,0,9;b10,50,58,1,0,9;s0,1;");
        of(x, 1, 1, 3, 4, 50, 8);
        // from one to the next: each loss is counted from what the one ahead had
        x = Check.laid("t1,10,10,60,0;b10,60,60,3,0,9;b10,50,58,2,0,9;b10,54,55,1,0,9;s1,0;s2,1;");
        of(x, 1, 1, 3, 5, 57, 0);
        of(x, 1, 2, 5, 6, 55, 0);
        // not from one before the one ahead
        x = Check.laid("t1,10,10,60,0;b10,60,60,3,0,9;b10,50,58,2,0,9;b10,54,55,1,0,9;s1,0;s2,0;");
        never(x, 1, 2);
        // what is left of the heat may be less than nothing
        x = Check.laid("t1,10,0,5,0;b10,5,5,20,0,9;b10,0,4,1,0,99;s1,0;q9;");
        of(x, 1, 1, 20, 21, 0, 0);
    }

    private static void scores() {
        BathNight x = Check.laid("t1,60,10,50,0;b5,10,10,2,0,2;b5,10,10,2,0,3;b5,10,10,2,0,6;");
        score(x, 0, 1, 6);
        x = Check.laid("t1,60,10,50,0;");
        score(x, 0, 0, 0);
        x = Check.laid("t1,60,10,50,0;b5,10,10,20,59,99;n60;");
        score(x, 0, 0, 79);
    }

    private static void wrongly() {
        BathNight x = Check.laid("t3,10,10,60,0;b10,60,60,3,0,9;");
        for (int rule : new int[] {-1, 4}) {
            Check.due("evening(" + rule + ", 0, 0)", x.evening(rule, 0, 0), BathNight.BAD);
            Check.due("score(" + rule + ", 0)", x.score(rule, 0), BathNight.BAD);
            Check.due("left(" + rule + ", 0)", x.left(rule, 0), BathNight.BAD);
        }
        Check.due("evening(0, 1, 0)", x.evening(0, 1, 0), BathNight.BAD);
        Check.due("evening(0, -1, 0)", x.evening(0, -1, 0), BathNight.BAD);
        Check.due("evening(0, 0, 4)", x.evening(0, 0, 4), BathNight.BAD);
        Check.due("evening(0, 0, -1)", x.evening(0, 0, -1), BathNight.BAD);
        Check.due("score(0, 3)", x.score(0, 3), BathNight.BAD);
        Check.due("score(0, -1)", x.score(0, -1), BathNight.BAD);
        Check.due("left(0, 2)", x.left(0, 2), 10);
        Check.due("left(0, 3)", x.left(0, 3), BathNight.BAD);
        Check.due("left(0, 5)", x.left(0, 5), BathNight.BAD);
        Check.due("left(0, 8)", x.left(0, 8), BathNight.BAD);
        Check.due("left(0, -1)", x.left(0, -1), BathNight.BAD);
    }
}
