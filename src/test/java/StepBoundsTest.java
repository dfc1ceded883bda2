/**
 * A STEP and who CAN go in, at their bounds (promises 12 to 14): the first step at which a thing is
 * so and the last one at which it is not yet.
 */
public final class StepBoundsTest {
    private static final int NONE = BathNight.NONE;

    public static void main(String[] args) {
        steps();
        firesThatCanBe();
        fireOfOneStep();
        fireOfManySteps();
        nextLowerStage();
        anewFromItsBeginning();
        orderInAStep();
        halfAndHalf();
        fromTheLastOneUp();
        losses();
        eachEveningFromItsBeginning();
        thereFrom();
        onceIn();
        afterOthersAreDone();
        freeAgain();
        waterJustDone();
        waterOfWhom();
        waterThatIsRight();
        waterLosesEachStep();
        waterOrElseABath();
        nothingDrawnOfWater();
        kettleIsHot();
        kettleThatIsNotUsed();
        Check.end();
    }

    private static void of(BathNight x, int rule, int i, int went, int done, int heat, int drawn) {
        String call = "evening(" + rule + ", " + i + ", ";
        Check.due(call + "0)", x.evening(rule, i, 0), went);
        Check.due(call + "1)", x.evening(rule, i, 1), done);
        Check.due(call + "2)", x.evening(rule, i, 2), heat);
        Check.due(call + "3)", x.evening(rule, i, 3), drawn);
    }

    private static void never(BathNight x, int rule, int i) {
        of(x, rule, i, NONE, NONE, NONE, NONE);
    }

    private static void leftAre(BathNight x, String of, int... heats) {
        for (int k = 0; k < heats.length; k++) {
            Check.due("left(0, " + k + ") of " + of, x.left(0, k), heats[k]);
        }
    }

    /** "A STEP t (0 to N less 1)". */
    private static void steps() {
        for (int n : new int[] {1, 2, 59, 60}) {
            String house = "t1,60,0,95,1;n" + n + ";";
            // 60 pints lose a unit a step: a degree when the 60 units are gone
            leftAre(Check.laid(house), house, 94);
            of(Check.laid(house + "b1,0,99,1," + (n - 1) + ",99;"), 0, 0, n - 1, n, 0, 0);
            never(Check.laid(house + "b1,0,99,1," + n + ",99;"), 0, 0);
        }
        // of 5605 units 5546 are 94 degrees of 59 pints: 59 steps take them away, the 60th one more
        leftAre(Check.laid("t1,59,0,95,1;n59;"), "59 steps", 94);
        leftAre(Check.laid("t1,59,0,95,1;n60;"), "60 steps", 93);
    }

    /** "THE FIRE is made up, if that is planned for t and can be (STAGE 3 anew, once less)". */
    private static void firesThatCanBe() {
        for (int fires = 0; fires <= 9; fires++) {
            BathNight x = Check.laid("t1,1,0,0,0;f3,10,1;n60;c" + fires + ";");
            for (int t = 0; t < 10; t++) {
                x.plan(2 * t, true);
            }
            // ten are planned, ten degrees each
            leftAre(x, fires + " fires", 10 * fires);
            Check.due("left(0, 6) of " + fires, x.left(0, 6), 0);
            Check.due("count(6) of " + fires, x.count(6), fires);
        }
        BathNight x = Check.laid("t1,1,0,0,0;f3,10,1;n5;c3;");
        Check.due("left(0, 6) without a plan", x.left(0, 6), 3);
        x.plan(4, true);
        Check.due("left(0, 6) at the last step", x.left(0, 6), 2);
        leftAre(x, "the last step", 10);
        x.plan(5, true);
        Check.due("left(0, 6) behind the last step", x.left(0, 6), 2);
        // what can't be leaves the fire as it is: at step 2 it is at stage 2 and goes on so
        x = Check.laid("t1,1,0,0,0;f3,10,2;f2,1,30;c1;n9;");
        x.plan(0, true);
        x.plan(2, true);
        leftAre(x, "a fire that can't be", 27);
        Check.due("left(0, 7)", x.left(0, 7), 2);
    }

    /** "lasts N STEPS (1 to 30)". */
    private static void fireOfOneStep() {
        for (int n = 1; n <= 4; n++) {
            BathNight x = Check.laid("t1,1,0,0,0;f3,10,1;f2,5,1;f1,2,1;c1;n" + n + ";");
            x.plan(0, true);
            leftAre(x, "fires of a step by " + n, n == 1 ? 10 : n == 2 ? 15 : 17);
            Check.due("left(0, 7) by " + n, x.left(0, 7), n == 1 ? 2 : n == 2 ? 1 : 0);
        }
    }

    private static void fireOfManySteps() {
        for (int n = 29; n <= 32; n++) {
            BathNight x = Check.laid("t1,1,0,0,0;f3,10,30;f2,1,30;c1;n" + n + ";");
            x.plan(0, true);
            leftAre(x, "a fire of 30 steps by " + n, n <= 30 ? 10 * n : 300 + n - 30);
            Check.due("left(0, 7) by " + n, x.left(0, 7), n < 30 ? 3 : 2);
        }
        BathNight x = Check.laid("t1,1,0,0,0;f3,9999,30;c1;n1;");
        x.plan(0, true);
        leftAre(x, "the hottest fire", 9999);
    }

    /** "then it is the next lower one (..; STAGE 0 gives nothing)": each lasts its own steps. */
    private static void nextLowerStage() {
        int[] heats = {0, 7, 14, 114, 214, 314, 314, 314};
        int[] stages = {2, 2, 1, 1, 1, 0, 0, 0};
        for (int n = 1; n <= heats.length; n++) {
            BathNight x = Check.laid("t1,1,0,0,0;f3,0,1;f2,7,2;f1,100,3;c1;n" + n + ";");
            x.plan(0, true);
            leftAre(x, "stages by " + n, heats[n - 1]);
            Check.due("left(0, 7) by " + n, x.left(0, 7), stages[n - 1]);
        }
    }

    /** "(STAGE 3 anew ..)": made up at a lower stage, in the midst of one, at the end of one. */
    private static void anewFromItsBeginning() {
        for (int second = 1; second <= 8; second++) {
            BathNight x = Check.laid("t1,1,0,0,0;f3,100,3;f2,10,2;f1,1,2;c2;n7;");
            x.plan(0, true);
            x.plan(second, true);
            // step by step: 3 of 100, 2 of 10, 2 of 1; anew from the second one on; 7 steps in all
            int sum = 0;
            for (int t = 0; t < 7; t++) {
                int age = t < second ? t : t - second;
                sum += age < 3 ? 100 : age < 5 ? 10 : age < 7 ? 1 : 0;
            }
            leftAre(x, "a second fire at " + second, sum);
        }
    }

    /** "first THE FIRE ..; then the tub ..; then: THE FIRE's units .. loses W ..". */
    private static void orderInAStep() {
        // the fire of step 0 is felt at step 1
        BathNight x = Check.laid("t1,10,0,0,0;f3,400,1;c1;b10,40,40,1,0,9;");
        x.plan(0, true);
        of(x, 0, 0, 1, 2, 40, 10);
        // what is lost at step 0 is not lost yet for who goes in at 0
        of(Check.laid("t1,10,0,40,100;b10,40,40,1,0,9;"), 0, 0, 0, 1, 40, 10);
        never(Check.laid("t1,10,0,40,100;b10,40,40,1,1,9;"), 0, 0);
        of(Check.laid("t1,10,0,40,100;b10,30,30,1,1,9;"), 0, 0, 1, 2, 30, 10);
        // the fire's units are there when the loss comes: 0 and 5 less 5
        x = Check.laid("t1,1,0,0,5;f3,5,1;c1;n1;");
        x.plan(0, true);
        leftAre(x, "5 less 5", 0);
        // and half of them have gone up by then: 3 and 2, less 2
        x = Check.laid("t2,1,0,0,2;f3,5,1;c1;n1;");
        x.plan(0, true);
        leftAre(x, "3 and 2 less 2", 1, 0);
    }

    /** "each LAYER that has more units than the one above gives, so that both have half (the upper one the odd unit)". */
    private static void halfAndHalf() {
        int[][] due = {{0, 20, 20}, {1, 21, 20}, {2, 21, 21}, {3, 22, 21}, {999, 520, 519}};
        for (int[] one : due) {
            BathNight x = Check.laid("t2,1,0,20,0;c1;n1;f3," + one[0] + ",1;");
            x.plan(0, true);
            leftAre(x, one[0] + " more below", one[1], one[2]);
        }
        // one that has as much or less gives nothing: 50 above, 10 below and up to 40 more
        for (int more = 38; more <= 43; more++) {
            BathNight x = Check.laid("t2,1,10,50,0;b1,50,50,1,0,9;c1;n1;f3," + more + ",1;");
            x.plan(0, true);
            int both = 60 + more;
            leftAre(x, more + " below", more <= 40 ? 50 : both - both / 2, more <= 40 ? 10 + more : both / 2);
        }
    }

    /** "go into the last LAYER; from it up". */
    private static void fromTheLastOneUp() {
        // 64 below: 32 stay, 16, 8, 4, and 2 and 2 come to rest on top
        BathNight x = Check.laid("t6,1,0,0,0;f3,64,1;c1;n1;");
        x.plan(0, true);
        leftAre(x, "64 below six", 2, 2, 4, 8, 16, 32);
        // 63: 31 and 32; 16 and 16; 8 and 8; 4 and 4; 2 and 2
        x = Check.laid("t6,1,0,0,0;f3,63,1;c1;n1;");
        x.plan(0, true);
        leftAre(x, "63 below six", 2, 2, 4, 8, 16, 31);
        // 1 goes to the top in one step
        x = Check.laid("t6,1,0,0,0;f3,1,1;c1;n1;");
        x.plan(0, true);
        leftAre(x, "1 below six", 1, 0, 0, 0, 0, 0);
    }

    /** "each LAYER of more than C times P units loses W of them, but not below that". */
    private static void losses() {
        // one pint, 10 cold: what stays of 10, 11, .. when 3 are lost
        int[][] due = {{10, 10}, {11, 10}, {12, 10}, {13, 10}, {14, 11}, {15, 12}};
        for (int[] one : due) {
            leftAre(Check.laid("t1,1,10," + one[0] + ",3;n1;"), one[0] + " less 3", one[1]);
        }
        // seven pints: 70 units are as cold as water gets
        leftAre(Check.laid("t1,7,10,11,7;n1;"), "77 less 7", 10);
        leftAre(Check.laid("t1,7,10,11,8;n1;"), "77 less 8", 10);
        leftAre(Check.laid("t1,7,10,12,6;n1;"), "84 less 6", 11);
        leftAre(Check.laid("t1,7,0,1,7;n1;"), "7 less 7", 0);
        leftAre(Check.laid("t1,7,0,0,999;n1;"), "0 less 999", 0);
        leftAre(Check.laid("t1,7,40,95,0;n60;"), "665 less 0", 95);
        // each layer as much, the last one, too
        leftAre(Check.laid("t6,1,0,10,4;n1;"), "six of 10 less 4", 6, 6, 6, 6, 6, 6);
        leftAre(Check.laid("t6,1,0,10,4;n2;"), "six of 10 less 8", 2, 2, 2, 2, 2, 2);
        leftAre(Check.laid("t6,1,0,10,4;n3;"), "six of 10 less 12", 0, 0, 0, 0, 0, 0);
        // a layer as cold as water gets loses nothing while another does
        leftAre(Check.laid("t2,1,10,50,5;b1,50,50,1,0,9;n1;"), "50 and 10", 45, 10);
    }

    /** "(THE FIRE is at STAGE 0 first. The kettle is put on at STEP 0 ..)": whatever the last evening was. */
    private static void eachEveningFromItsBeginning() {
        BathNight x = Check.laid("t1,1,0,0,0;f3,10,30;c1;n5;b10,10,99,1,0,9;k1,3;");
        x.plan(2, true);
        for (int round = 0; round < 2; round++) {
            leftAre(x, "a fire at 2", 30);
            Check.due("left(0, 7)", x.left(0, 7), 3);
            Check.due("left(0, 6)", x.left(0, 6), 0);
            of(x, 0, 0, 3, 4, 10, 0);
        }
        x.plan(2, false);
        leftAre(x, "no fire", 0);
        Check.due("left(0, 7) without a fire", x.left(0, 7), 0);
        Check.due("left(0, 6) without a fire", x.left(0, 6), 1);
        of(x, 0, 0, 3, 4, 10, 0);
        // who was in of one evening is in anew of the next one, by another rule, too
        for (int rule = 0; rule < 4; rule++) {
            x.hot(0);
            of(x, rule, 0, 3, 4, 10, 0);
        }
    }

    /** "it is there": from STEP A on (0 to 60). */
    private static void thereFrom() {
        for (int rule = 0; rule < 4; rule++) {
            for (int from : new int[] {0, 1, 58, 59}) {
                BathNight x = Check.laid("t1,10,0,60,0;n60;b1,0,99,1," + from + ",99;");
                of(x, rule, 0, from, from + 1, 0, 0);
            }
            never(Check.laid("t1,10,0,60,0;n60;b1,0,99,1,60,99;"), rule, 0);
        }
    }

    /** "was not in": once of an evening, with all the steps there are. */
    private static void onceIn() {
        for (int rule = 0; rule < 4; rule++) {
            BathNight x = Check.laid("t1,10,0,50,0;n60;b1,50,50,1,0,99;b1,40,60,1,0,99;");
            x.hot(45);
            of(x, rule, 0, 0, 1, 50, 1);
            of(x, rule, 1, 1, 2, 45, 1);
            // one pint of 50 and one of 45: nobody draws a third
            Check.due("left(" + rule + ", 0)", x.left(rule, 0), 40);
        }
    }

    /** "all that it goes after are done (by t)". */
    private static void afterOthersAreDone() {
        for (int stays : new int[] {1, 2, 20}) {
            BathNight x = Check.laid("t1,10,0,60,0;n60;b1,0,99,1,0,99;b1,0,99," + stays + ",0,99;a0,1;");
            of(x, 1, 1, 0, stays, 0, 0);
            of(x, 1, 0, stays, stays + 1, 0, 0);
        }
        // of two the last one counts, however it comes
        BathNight x = Check.laid("t1,10,0,60,0;b1,0,99,1,0,99;b1,0,99,2,0,99;b1,0,99,2,6,99;a0,1;a0,2;");
        of(x, 1, 0, 8, 9, 0, 0);
        x = Check.laid("t1,10,0,60,0;b1,0,99,1,0,99;b1,0,99,2,6,99;b1,0,99,2,0,99;a0,1;a0,2;");
        of(x, 1, 0, 8, 9, 0, 0);
        // who goes after one that is never done never goes in
        x = Check.laid("t1,10,0,60,0;b1,0,99,1,0,99;b1,99,99,2,0,99;b1,0,99,1,0,99;a0,1;");
        never(x, 1, 0);
        of(x, 1, 2, 0, 1, 0, 0);
        // done behind the last step is too late for the next one
        x = Check.laid("t1,10,0,60,0;n5;b1,0,99,1,0,99;b1,0,99,5,0,99;a0,1;");
        of(x, 1, 1, 0, 5, 0, 0);
        never(x, 1, 0);
        x = Check.laid("t1,10,0,60,0;n6;b1,0,99,1,0,99;b1,0,99,5,0,99;a0,1;");
        of(x, 1, 0, 5, 6, 0, 0);
        // round and round nobody goes in, but who is not of the round
        x = Check.laid("t1,10,0,60,0;b1,0,99,1,0,99;b1,0,99,1,0,99;b1,0,99,1,0,99;b1,0,99,1,0,99;a0,1;a1,2;a2,0;");
        of(x, 1, 3, 0, 1, 0, 0);
        never(x, 1, 0);
        never(x, 1, 1);
        never(x, 1, 2);
    }

    /** "The tub is free again M STEPS later: it is done at t and M". */
    private static void freeAgain() {
        for (int stays : new int[] {1, 2, 19, 20}) {
            for (int rule = 0; rule < 4; rule++) {
                BathNight x = Check.laid("t1,10,0,60,0;n60;b1,0,99," + stays + ",3,99;b1,0,99,1,4,99;");
                x.hot(60);
                of(x, rule, 0, 3, 3 + stays, 0, 0);
                of(x, rule, 1, Math.max(4, 3 + stays), Math.max(4, 3 + stays) + 1, 0, 0);
            }
        }
        // done as late as can be
        of(Check.laid("t1,10,0,60,0;n60;b1,0,99,20,59,99;"), 0, 0, 59, 79, 0, 0);
    }

    /** "if the one ahead was done just at t". */
    private static void waterJustDone() {
        for (int from = 0; from <= 5; from++) {
            BathNight x = Check.laid("t1,10,0,60,0;b10,60,60,3,0,9;b10,50,58,1," + from + ",9;s1,0;");
            if (from <= 3) {
                of(x, 1, 1, 3, 4, 57, 0);
            } else {
                never(x, 1, 1);
            }
        }
        // at step 0 nobody was ahead
        never(Check.laid("t1,10,0,0,0;b10,50,58,1,0,9;b10,60,60,3,0,9;s0,1;"), 1, 0);
    }

    /** "it may use that one's water": that one's, of the one ahead. */
    private static void waterOfWhom() {
        String three = "t1,10,0,60,0;b10,60,60,1,0,9;b10,50,59,1,1,9;b10,50,58,1,2,9;";
        never(Check.laid(three), 1, 1);
        never(Check.laid(three + "s0,1;"), 1, 1);
        never(Check.laid(three + "s2,0;"), 1, 2);
        BathNight x = Check.laid(three + "s1,0;s2,0;");
        of(x, 1, 1, 1, 2, 59, 0);
        never(x, 1, 2);
        x = Check.laid(three + "s1,0;s2,1;");
        of(x, 1, 1, 1, 2, 59, 0);
        // the water of the one ahead is that of the first one: 60 less 1 less 1
        of(x, 1, 2, 2, 3, 58, 0);
        // of several that it may use it is the one ahead, whoever else was in
        x = Check.laid(three + "s1,0;s2,0;s2,1;");
        of(x, 1, 2, 2, 3, 58, 0);
    }

    /** "its heat is L to H of its own". */
    private static void waterThatIsRight() {
        // the water is at 57 when it is left
        for (int low = 54; low <= 59; low++) {
            for (int high = low; high <= 60; high++) {
                BathNight x = Check.laid("t1,10,0,60,0;b10,60,60,3,0,9;b10," + low + "," + high + ",1,0,9;s1,0;");
                if (low <= 57 && high >= 57) {
                    of(x, 1, 1, 3, 4, 57, 0);
                } else {
                    never(x, 1, 1);
                }
            }
        }
    }

    /** "(as drawn, less K times M of that one)": K of 0 to 9, M of 1 to 20. */
    private static void waterLosesEachStep() {
        for (int loses = 0; loses <= 9; loses++) {
            for (int stays : new int[] {1, 2, 20}) {
                String first = "t1,10,0,90,0;b10,90,90," + stays + ",0,99;s1,0;q" + loses + ";";
                int heat = 90 - loses * stays;
                if (heat > 0) {
                    BathNight x = Check.laid(first.replace("s1", "b10," + heat + "," + heat + ",1,0,99;s1"));
                    of(x, 1, 1, stays, stays + 1, heat, 0);
                } else {
                    // below nothing it is nobody's: a bath of 0 degrees is taken
                    BathNight x = Check.laid(first.replace("s1", "b10,0,99,1,0,99;s1"));
                    of(x, 1, 1, stays, stays + 1, 0, 0);
                }
            }
        }
        // it is the M of the one ahead, not its own
        BathNight x = Check.laid("t1,10,0,90,0;b10,90,90,2,0,99;b10,86,86,7,0,99;s1,0;q2;");
        of(x, 1, 1, 2, 9, 86, 0);
    }

    /** "else a BATH can be had, and is taken". */
    private static void waterOrElseABath() {
        String tank = "t2,10,10,60,0;b10,60,60,3,0,9;";
        // the water at 57 is too hot, too cold: ten pints stand in the upper layer at 60
        of(Check.laid(tank + "b10,30,56,1,0,9;s1,0;"), 1, 1, 3, 4, 30, 4);
        of(Check.laid(tank + "b10,58,60,1,0,9;s1,0;"), 1, 1, 3, 4, 60, 10);
        of(Check.laid(tank + "b10,30,57,1,0,9;s1,0;"), 1, 1, 3, 4, 57, 0);
        // too late for it
        of(Check.laid(tank + "b10,30,57,1,4,9;s1,0;"), 1, 1, 4, 5, 30, 4);
        // neither the water nor a bath
        never(Check.laid(tank + "b10,58,59,1,0,9;s1,0;"), 1, 1);
    }

    /** "without anything DRAWN (its heat is that then)": the tank and the kettle stay as they are. */
    private static void nothingDrawnOfWater() {
        BathNight x = Check.laid("t1,10,0,60,0;b5,60,60,1,0,9;b5,50,60,1,0,9;n9;s1,0;");
        of(x, 1, 1, 1, 2, 59, 0);
        Check.due("left(1, 0)", x.left(1, 0), 30);
        // bather 0 would have the kettle, and draws; 1 uses its water; 2 has the kettle then
        x = Check.laid("t1,20,10,50,0;b10,50,50,2,0,9;b10,40,60,1,0,9;b10,30,60,1,3,9;s1,0;k2,3;");
        of(x, 1, 0, 0, 2, 50, 10);
        of(x, 1, 1, 2, 3, 48, 0);
        // 200 and 80 are 28 degrees, a pint of 30 for one of 10 makes them 30
        of(x, 1, 2, 3, 4, 30, 1);
        // the kettle is hot while the water is used, and others at the door would have had it
        x = Check.laid("t1,20,10,50,0;b10,50,50,3,0,9;b10,40,60,1,0,9;b10,30,60,1,1,9;b10,30,60,1,1,9;s1,0;k3,3;n20;");
        of(x, 1, 1, 3, 4, 47, 0);
        of(x, 1, 2, 4, 5, 37, 0);
        // behind the kettle it is for the tank: ten pints of 30 there are enough
        of(x, 1, 3, 5, 6, 30, 10);
        // so it is if those at the door stand ahead of who uses the water
        x = Check.laid("t1,20,10,50,0;b10,50,50,3,0,9;b10,30,60,1,1,9;b10,30,60,1,1,9;b10,40,60,1,0,9;s3,0;k3,3;n20;");
        of(x, 1, 3, 3, 4, 47, 0);
        of(x, 1, 1, 4, 5, 37, 0);
        of(x, 1, 2, 5, 6, 30, 10);
    }

    /** "is hot R STEPS (1 to 30) after it was put on"; "put on at STEP 0, and anew when it is used". */
    private static void kettleIsHot() {
        for (int hotBy : new int[] {1, 2, 29, 30}) {
            BathNight x = Check.laid("t1,10,0,0,0;n60;b10,10,10,1,0,99;b10,10,10,1,0,99;k1," + hotBy + ";");
            of(x, 1, 0, hotBy, hotBy + 1, 10, 0);
            if (2 * hotBy < 60) {
                of(x, 1, 1, 2 * hotBy, 2 * hotBy + 1, 10, 0);
            } else {
                never(x, 1, 1);
            }
        }
        // once hot it stays so, and is anew from the step of its use on, not from when it was hot
        BathNight x = Check.laid("t1,10,0,0,0;n60;b10,10,10,1,7,99;b10,10,10,1,0,99;k1,5;a1,0;");
        of(x, 1, 0, 7, 8, 10, 0);
        of(x, 1, 1, 12, 13, 10, 0);
        // not hot at the last step, not at all
        never(Check.laid("t1,10,0,0,0;n5;b10,10,10,1,0,99;k1,5;"), 1, 0);
        of(Check.laid("t1,10,0,0,0;n6;b10,10,10,1,0,99;k1,5;"), 1, 0, 5, 6, 10, 0);
    }

    /** "(G 0 else)": a kettle that is too much for one stays on for the next one. */
    private static void kettleThatIsNotUsed() {
        BathNight x = Check.laid("t1,10,0,0,0;b4,0,0,1,3,99;b10,50,50,1,3,99;k5,3;");
        of(x, 1, 0, 3, 4, 0, 0);
        of(x, 1, 1, 4, 5, 50, 0);
        // who goes in before it is hot leaves it on, too
        x = Check.laid("t1,10,0,0,0;b10,0,0,1,2,99;b10,50,50,1,2,99;k5,3;");
        of(x, 1, 0, 2, 3, 0, 0);
        of(x, 1, 1, 3, 4, 50, 0);
        // who can't have it (too hot) leaves it on and can't have less
        x = Check.laid("t1,10,0,0,0;b10,0,49,1,3,99;b10,50,50,1,5,99;k5,3;");
        of(x, 1, 1, 5, 6, 50, 0);
        of(x, 1, 0, 6, 7, 0, 0);
    }
}
