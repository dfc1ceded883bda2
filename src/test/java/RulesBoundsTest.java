/**
 * RULES, PLAN, AN EVENING, LATE, DONE, SCORE and LEFT at their bounds (promises 9 to 14): who is
 * first of those alike, the last degree and step that are enough, and the first that are not.
 */
public final class RulesBoundsTest {
    private static final int BAD = BathNight.BAD, NONE = BathNight.NONE;
    private static final String TANK = "t1,60,0,50,0;";

    public static void main(String[] args) {
        rowAtFirst();
        rowChangesTwo();
        rowWaits();
        doorLongest();
        doorOfThoseThatCan();
        bathOfItsOwn();
        hotAtJustX();
        hotIsCut();
        hotOfTheTop();
        hotOrWater();
        hotAsDoor();
        hotTakes();
        smallest();
        planOfEveryStep();
        planBehindTheLastStep();
        noneOfAnEvening();
        lateOrNot();
        doneByAll();
        scoreOfMany();
        leftOfLayers();
        leftAtTheEnd();
        Check.end();
    }

    private static void went(BathNight x, int rule, int... steps) {
        for (int i = 0; i < steps.length; i++) {
            Check.due("evening(" + rule + ", " + i + ", 0)", x.evening(rule, i, 0), steps[i]);
        }
    }

    private static void score(BathNight x, int rule, int late, int done) {
        Check.due("score(" + rule + ", 0)", x.score(rule, 0), late);
        Check.due("score(" + rule + ", 1)", x.score(rule, 1), done);
        Check.due("score(" + rule + ", 2)", x.score(rule, 2), 100 * late + done);
    }

    private static String bathers(int n) {
        return "b1,0,99,1,0,99;".repeat(n);
    }

    /** "a row of all BATHERS (0, 1, .. at first)". */
    private static void rowAtFirst() {
        for (int n = 0; n <= 6; n++) {
            BathNight x = Check.laid(TANK + bathers(n));
            for (int k = 0; k <= 6; k++) {
                Check.due("row(" + k + ", k) of " + n, x.row(k, k), k < n ? k : BAD);
            }
        }
    }

    /** "its place k (0 first) becomes BATHER i, which changes places with the one there: who was there". */
    private static void rowChangesTwo() {
        for (int n = 1; n <= 6; n++) {
            for (int k = 0; k < n; k++) {
                for (int i = 0; i < n; i++) {
                    BathNight x = Check.laid(TANK + bathers(n));
                    Check.due("row(" + k + ", " + i + ") of " + n, x.row(k, i), k);
                    for (int at = 0; at < n; at++) {
                        int due = at == k ? i : at == i ? k : at;
                        Check.due("row(" + at + ", its own)", x.row(at, due), due);
                    }
                    int[] went = new int[n];
                    for (int who = 0; who < n; who++) {
                        went[who] = who == k ? i : who == i ? k : who;
                    }
                    went(x, 0, went);
                }
            }
            BathNight x = Check.laid(TANK + bathers(n));
            for (int wrong : new int[] {-1, n, 6, 7}) {
                Check.due("row(" + wrong + ", 0) of " + n, x.row(wrong, 0), BAD);
                Check.due("row(0, " + wrong + ") of " + n, x.row(0, wrong), BAD);
            }
        }
    }

    /** "the next one of it goes in at the first STEP at which it CAN": nobody goes ahead of it. */
    private static void rowWaits() {
        BathNight x = Check.laid(TANK + "b1,0,99,2,9,99;b1,0,99,1,0,99;b1,0,99,1,3,99;");
        went(x, 0, 9, 11, 12);
        x.row(0, 1);
        went(x, 0, 9, 0, 11);
        x.row(1, 2);
        went(x, 0, 9, 0, 3);
    }

    /** "1 DOOR: of those that CAN the one there longest, the lowest". */
    private static void doorLongest() {
        BathNight x = Check.laid(TANK + "b1,0,99,5,0,99;b1,0,99,1,3,99;b1,0,99,1,2,99;b1,0,99,1,2,99;b1,0,99,1,1,99;b1,0,99,1,4,99;");
        went(x, 1, 0, 8, 6, 7, 5, 9);
        went(Check.laid(TANK + bathers(6)), 1, 0, 1, 2, 3, 4, 5);
        // there one step longer is enough, whoever is lower
        went(Check.laid(TANK + "b1,0,99,9,0,99;b1,0,99,1,8,99;b1,0,99,1,7,99;"), 1, 0, 10, 9);
    }

    private static void doorOfThoseThatCan() {
        // there longest, but too cold for it; after one who is not done
        BathNight x = Check.laid(TANK + "b1,51,99,1,0,99;b1,0,99,1,0,99;b1,0,99,1,1,99;a1,2;");
        went(x, 1, NONE, 2, 1);
        Check.due("score(1, 2) of nobody who can", Check.laid(TANK + "b1,51,99,1,0,99;b1,60,99,1,0,99;").score(1, 2), 299);
    }

    /** Whoever else was at the door and could not, or came behind it: who goes in has a bath of its own. */
    private static void bathOfItsOwn() {
        String own = "b10,30,40,1,1,99;";
        for (String other : new String[] {"b10,99,99,1,0,99;", "b9,99,99,1,0,99;", "b9,0,9,1,0,99;", "b11,45,50,1,2,99;"}) {
            hasItsOwn(own + other, 0);
            hasItsOwn(other + own, 1);
        }
        hasItsOwn(own + "b9,40,50,1,0,99;a1,0;", 0);
        hasItsOwn("b9,40,50,1,0,99;" + own + "a0,1;", 1);
    }

    private static void hasItsOwn(String bathers, int i) {
        for (int rule = 1; rule < 4; rule++) {
            BathNight x = Check.laid("t1,20,10,50,0;" + bathers);
            Check.due(bathers + " evening(" + rule + ", " + i + ", 0)", x.evening(rule, i, 0), 1);
            Check.due(bathers + " evening(" + rule + ", " + i + ", 2)", x.evening(rule, i, 2), 30);
            Check.due(bathers + " evening(" + rule + ", " + i + ", 3)", x.evening(rule, i, 3), 5);
        }
    }

    /** "while HEAT of LAYER 0 is X (0 to 99; 50 at first) or more". */
    private static void hotAtJustX() {
        for (int heat : new int[] {0, 1, 49, 50, 51, 94, 95}) {
            BathNight x = Check.laid("t1,10,0," + heat + ",0;b1,0,99,1,2,99;");
            went(x, 2, heat >= 50 ? 2 : NONE);
            for (int hot = Math.max(0, heat - 1); hot <= heat + 1; hot++) {
                x.hot(hot);
                went(x, 2, hot <= heat ? 2 : NONE);
            }
            x.hot(99);
            went(x, 2, NONE);
            x.hot(0);
            went(x, 2, 2);
        }
        // 99 degrees come from the fire: 95 and 4
        BathNight x = Check.laid("t1,1,0,95,0;f3,4,1;c1;b1,0,99,1,0,99;");
        x.hot(99);
        went(x, 2, NONE);
        x.plan(4, true);
        went(x, 2, 5);
    }

    /** It is HEAT: the units by P, cut. */
    private static void hotIsCut() {
        // 7 pints of 11 degrees are 77, a step later they are 76
        BathNight x = Check.laid("t1,7,0,11,1;b1,0,99,1,0,99;b1,0,99,1,1,99;");
        x.hot(11);
        went(x, 2, 0, NONE);
        x.hot(10);
        went(x, 2, 0, 1);
    }

    private static void hotOfTheTop() {
        // the pint of 50 that is left is on top, the cold water below
        BathNight x = Check.laid("t2,1,0,50,0;b1,50,50,1,0,99;b1,50,50,1,1,99;b1,0,0,1,2,99;");
        went(x, 2, 0, 1, NONE);
        x.hot(1);
        went(x, 2, 0, 1, NONE);
        x.hot(0);
        went(x, 2, 0, 1, 2);
    }

    /** "or that would use water". */
    private static void hotOrWater() {
        String house = "t1,10,0,60,0;b10,60,60,2,0,99;b10,58,58,2,0,99;";
        BathNight x = Check.laid(house + "s1,0;");
        went(x, 2, 0, 2);
        x.hot(60);
        went(x, 2, 0, 2);
        // the same without water to use, or with water that is not right
        x = Check.laid(house);
        went(x, 2, 0, NONE);
        x = Check.laid("t1,10,0,60,0;b10,60,60,2,0,99;b10,0,57,2,0,99;s1,0;");
        went(x, 1, 0, 2);
        went(x, 2, 0, NONE);
        x.hot(0);
        went(x, 2, 0, 2);
        // one that could draw has to wait where one that would use water need not
        x = Check.laid("t1,10,0,60,0;b10,60,60,2,0,99;b1,0,0,1,0,99;b10,58,58,1,1,99;s2,0;");
        went(x, 1, 0, 2, NONE);
        went(x, 2, 0, NONE, 2);
    }

    /** "2 HOT: as DOOR". */
    private static void hotAsDoor() {
        BathNight x = Check.laid(TANK + "b1,0,99,5,0,99;b1,0,99,1,3,99;b1,0,99,1,2,99;b1,0,99,1,2,99;b1,0,99,1,1,99;b1,0,99,1,4,99;");
        went(x, 2, 0, 8, 6, 7, 5, 9);
    }

    /** Promise 10: "X: what it was. BAD": 0 to 99. */
    private static void hotTakes() {
        BathNight x = new BathNight();
        int was = 50;
        for (int hot : new int[] {50, 0, 99, 1, 98}) {
            Check.due("hot(" + hot + ")", x.hot(hot), was);
            was = hot;
            Check.due("hot(-1)", x.hot(-1), BAD);
            Check.due("hot(100)", x.hot(100), BAD);
            Check.due("hot(1000)", x.hot(1000), BAD);
        }
        Check.due("hot(0) behind all", x.hot(0), 98);
    }

    /** "3 SMALL: of those that CAN the one of fewest pints V (whatever is DRAWN), the lowest". */
    private static void smallest() {
        went(Check.laid(TANK + "b9,0,99,1,0,99;b8,0,99,1,0,99;b8,0,99,1,0,99;b99,0,99,1,0,99;b1,0,99,1,0,99;"), 3, 3, 1, 2, 4, 0);
        // nine pints without one drawn, eight of which each is drawn
        went(Check.laid(TANK + "b9,0,99,1,0,99;b8,50,50,1,0,99;"), 3, 1, 0);
        went(Check.laid(TANK + "b8,50,50,1,0,99;b9,0,99,1,0,99;"), 3, 0, 1);
        // whoever is there longest
        went(Check.laid(TANK + "b5,0,99,4,0,99;b3,0,99,1,1,99;b2,0,99,1,4,99;"), 3, 0, 5, 4);
        // the smallest that can: not too cold for it, there, not after one that is not done
        went(Check.laid(TANK + "b1,51,99,1,0,99;b2,0,99,1,1,99;b3,0,99,1,0,99;b4,0,99,1,0,99;a2,3;"), 3, NONE, 1, 2, 0);
    }

    /** "A STEP (0 to 59) is planned or not: 1 if it was, 0. BAD"; "none at first". */
    private static void planOfEveryStep() {
        BathNight x = new BathNight();
        for (int t = 0; t < 60; t++) {
            Check.due("count(4) ahead of " + t, x.count(4), t);
            Check.due("plan(" + t + ", true)", x.plan(t, true), 0);
        }
        for (int wrong : new int[] {-64, -1, 60, 61, 63, 64, 119, 128}) {
            Check.due("plan(" + wrong + ", true)", x.plan(wrong, true), BAD);
            Check.due("plan(" + wrong + ", false)", x.plan(wrong, false), BAD);
        }
        Check.due("count(4) of all", x.count(4), 60);
        for (int t = 59; t >= 0; t--) {
            Check.due("plan(" + t + ", true) again", x.plan(t, true), 1);
            Check.due("plan(" + t + ", false)", x.plan(t, false), 1);
            Check.due("plan(" + t + ", false) again", x.plan(t, false), 0);
            Check.due("count(4) behind " + t, x.count(4), t);
        }
    }

    /** Each step of 60 makes the fire up at itself; those that come no more do nothing. */
    private static void planBehindTheLastStep() {
        for (int t = 0; t < 60; t++) {
            BathNight x = Check.laid("t1,1,0,0,0;f3,1,30;f2,1,30;c1;n30;");
            x.plan(t, true);
            Check.due("left(0, 0) by a fire at " + t, x.left(0, 0), Math.max(0, 30 - t));
            Check.due("left(0, 6) by a fire at " + t, x.left(0, 6), t < 30 ? 0 : 1);
        }
    }

    /** "(what = 0; NONE), was done (1; NONE), its heat (2; NONE), pints DRAWN (3; NONE)". */
    private static void noneOfAnEvening() {
        BathNight x = Check.laid(TANK + "b1,51,99,1,0,99;b9,0,99,3,2,99;");
        for (int rule = 1; rule < 4; rule++) {
            for (int what = 0; what < 4; what++) {
                Check.due("evening(" + rule + ", 0, " + what + ")", x.evening(rule, 0, what), NONE);
            }
            int[] due = {2, 5, 0, 0};
            for (int what = 0; what < 4; what++) {
                Check.due("evening(" + rule + ", 1, " + what + ")", x.evening(rule, 1, what), due[what]);
            }
        }
    }

    /** "LATE: how many were done after D, or not at all". */
    private static void lateOrNot() {
        for (int until = 0; until <= 99; until++) {
            score(Check.laid(TANK + "b1,0,99,5,3," + until + ";"), 1, until < 8 ? 1 : 0, 8);
        }
        score(Check.laid(TANK + "n60;b1,0,99,20,59,79;"), 1, 0, 79);
        score(Check.laid(TANK + "n60;b1,0,99,20,59,78;"), 1, 1, 79);
        score(Check.laid(TANK + "b1,51,99,1,0,99;"), 1, 1, 99);
        score(Check.laid(TANK + "b1,51,99,1,0,99;b1,0,99,1,0,1;"), 1, 1, 99);
        score(Check.laid(TANK + "b1,51,99,1,0,99;b1,0,99,1,0,0;"), 1, 2, 99);
    }

    /** "DONE: the STEP by which all were (99: not all; 0 without BATHERS)". */
    private static void doneByAll() {
        for (int rule = 0; rule < 4; rule++) {
            score(new BathNight(), rule, 0, 0);
            score(Check.laid(TANK), rule, 0, 0);
            for (int n = 1; n <= 6; n++) {
                score(Check.laid(TANK + bathers(n)), rule, 0, n);
                score(Check.laid(TANK + bathers(n) + "n" + n + ";"), rule, 0, n);
                if (n > 1) {
                    score(Check.laid(TANK + bathers(n) + "n" + (n - 1) + ";"), rule, 1, 99);
                }
            }
        }
        // not the one with the highest number, but the one that is done last
        score(Check.laid(TANK + "b1,0,99,3,9,99;b1,0,99,1,0,99;b1,0,99,2,2,99;"), 1, 0, 12);
    }

    /** "SCORE: 100 LATE and DONE". */
    private static void scoreOfMany() {
        for (int n = 1; n <= 6; n++) {
            score(Check.laid(TANK + "b1,51,99,1,0,99;".repeat(n)), 1, n, 99);
            score(Check.laid(TANK + "b1,0,99,13,0,0;".repeat(n) + "n60;"), 1, n > 5 ? 6 : n, n > 5 ? 99 : 13 * n);
        }
    }

    /** "HEAT of a LAYER (0 to 5, one that THE TANK has), fires (what = 6), STAGE (7). BAD". */
    private static void leftOfLayers() {
        for (int layers = 1; layers <= 6; layers++) {
            BathNight x = Check.laid("t" + layers + ",3,0,20,0;c5;");
            for (int rule = -1; rule <= 4; rule++) {
                for (int what = -1; what <= 8; what++) {
                    int due = what == 6 ? 5 : what == 7 ? 0 : 20;
                    boolean bad = rule < 0 || rule > 3 || what < 0 || what > 7 || what >= layers && what < 6;
                    Check.due("left(" + rule + ", " + what + ") of " + layers, x.left(rule, what), bad ? BAD : due);
                }
            }
        }
    }

    /** "at the end of STEP N less 1". */
    private static void leftAtTheEnd() {
        for (int n : new int[] {1, 2, 59, 60}) {
            BathNight x = Check.laid("t1,1,0,0,0;f3,1,30;f2,1,30;c2;n" + n + ";");
            x.plan(0, true);
            Check.due("left(0, 0) of " + n, x.left(0, 0), n);
            Check.due("left(0, 6) of " + n, x.left(0, 6), 1);
            Check.due("left(0, 7) of " + n, x.left(0, 7), n < 30 ? 3 : n < 60 ? 2 : 1);
        }
        // what those who bathed drew is seen in it
        BathNight x = Check.laid("t2,1,0,50,0;b1,50,50,1,0,99;b1,50,50,1,39,99;");
        Check.due("left(1, 0)", x.left(1, 0), 0);
        x.row(0, 1);
        Check.due("left(0, 0)", x.left(0, 0), 50);
        Check.due("left(0, 1)", x.left(0, 1), 0);
    }
}
