/**
 * TEXT, ITEMS, FAULT and LAID at their bounds (promises 1 to 6): the last that is taken and the
 * first that is not. What stands between quotes above a test is the document's sentence.
 */
public final class TextBoundsTest {
    private static final int NONE = BathNight.NONE;
    private static final String TANK = "t2,10,10,60,5;";
    private static final String TWO = TANK + "b20,30,40,3,0,20;b10,35,45,2,5,30;";
    private static final String RICH = "t6,60,40,95,999;f1,111,11;f2,222,12;f3,333,13;c9;b99,40,98,20,60,98;b98,41,97,19,59,97;"
        + "b97,42,96,18,58,96;b1,43,95,17,57,95;b2,44,94,16,56,94;b3,45,93,15,55,93;a1,0;a2,0;a5,4;s0,1;s4,5;q9;k20,30;n60;";

    public static void main(String[] args) {
        bytesOfText();
        writeAtTheEnd();
        bytesOfOneWrite();
        wipeLeavesTheHouse();
        figures();
        numbersOfAnItem();
        letters();
        signs();
        boundsOfNumbers();
        coldAndFirst();
        coolestAndHottest();
        pairs();
        sixBathers();
        tankFirstAndOnce();
        placeOfFault();
        unfinished();
        without();
        lastOneCounts();
        laidAtFirst();
        laidAnew();
        nothingLeftOfEarlierHouses();
        Check.end();
    }

    private static void fault(String text, int want) {
        BathNight x = new BathNight();
        Check.tell(x, text);
        Check.due("fault() of " + text, x.fault(), want);
        Check.due("lay() of " + text + " is NO", x.lay() == BathNight.NO ? 1 : 0, want == NONE ? 0 : 1);
    }

    private static void item(String before, String item, boolean so) {
        fault(before + item, so ? NONE : before.length());
    }

    private static String times(String part, int n) {
        return part.repeat(n);
    }

    /** "A TEXT is bytes (400 at most)". */
    private static void bytesOfText() {
        String whole = TANK + times("n5;", 126) + "n06;n07;";
        BathNight x = new BathNight();
        Check.tell(x, whole);
        Check.due("count(3) of a full text", x.count(3), 400);
        Check.due("fault() of a full text", x.fault(), NONE);
        Check.due("lay() of a full text", x.lay(), 0);
        Check.due("its last item counts", x.count(2), 7);
        Check.due("wipe() of a full text", x.wipe(), 400);
        // the last item lacks its end, and there is no room for it
        x = new BathNight();
        Check.tell(x, TANK + times("n5;", 127) + "n7;n7");
        Check.due("count(3) of a full text, unfinished", x.count(3), 400);
        Check.due("fault() of a full text, unfinished", x.fault(), 398);
        Check.due("lay() of a full text, unfinished", x.lay(), BathNight.NO);
        Check.due("write(1, ;) behind it", x.write(1, ';'), BathNight.FULL);
        Check.due("fault() of it still", x.fault(), 398);
    }

    /** "BAD; FULL": n of 1 to 8, as long as there is room for all n. */
    private static void writeAtTheEnd() {
        for (int n = 1; n <= 8; n++) {
            BathNight x = new BathNight();
            Check.due("write(n) at first " + n, x.write(n, 0), n);
            x.wipe();
            Check.tell(x, times("x", 400 - n + 1));
            Check.due("write(n) with room for one less " + n, x.write(n, 0), BathNight.FULL);
            Check.due("count(3) " + n, x.count(3), 400 - n + 1);
            x.wipe();
            Check.tell(x, times("x", 400 - n));
            Check.due("write(n) with just the room " + n, x.write(n, 0), 400);
            Check.due("write(n) without room " + n, x.write(n, 0), BathNight.FULL);
            Check.due("write(0) without room " + n, x.write(0, 0), BathNight.BAD);
            Check.due("write(9) without room " + n, x.write(9, 0), BathNight.BAD);
            Check.due("count(3) of a full text " + n, x.count(3), 400);
        }
    }

    /** "The lowest n bytes of v, the highest of these first". */
    private static void bytesOfOneWrite() {
        for (int n = 1; n <= 8; n++) {
            BathNight x = new BathNight();
            String text = TWO + "n33;c4;";
            int at = 0;
            while (at < text.length()) {
                int many = Math.min(n, text.length() - at);
                // bytes above those that are asked for: none of them may be seen
                long v = -1L;
                for (int k = 0; k < many; k++) {
                    v = v << 8 | text.charAt(at + k);
                }
                at += many;
                Check.due("write() by " + n, x.write(many, v), at);
            }
            Check.due("fault() written by " + n, x.fault(), NONE);
            Check.due("lay() written by " + n, x.lay(), 2);
            Check.due("count(2) written by " + n, x.count(2), 33);
            Check.due("count(6) written by " + n, x.count(6), 4);
        }
    }

    /** "THE TEXT is empty": the house that is LAID is as it was. */
    private static void wipeLeavesTheHouse() {
        BathNight x = Check.laid(TWO);
        x.hot(33);
        Check.due("wipe()", x.wipe(), TWO.length());
        Check.due("count(0) behind wipe()", x.count(0), 2);
        Check.due("bather(1, 5) behind wipe()", x.bather(1, 5), 30);
        Check.due("hot(33) behind wipe()", x.hot(33), 33);
        Check.due("lay() of an empty text", x.lay(), BathNight.NO);
        Check.due("count(0) behind it", x.count(0), 2);
    }

    /** "numbers (one to four figures)". */
    private static void figures() {
        String[] items = {"c#;", "n#;", "q#;", "k#,1;", "k1,#;", "f#,1,1;", "f1,#,1;", "f1,1,#;", "a#,0;", "s0,#;", "b#,1,1,1,1,1;",
            "b1,1,#,1,1,1;", "b1,1,1,1,1,#;"};
        for (String one : items) {
            item(TWO, one.replace("#", ""), false);
            item(TWO, one.replace("#", "1"), true);
            item(TWO, one.replace("#", "0001"), true);
            item(TWO, one.replace("#", "00001"), false);
        }
        item("", "t0001,0001,0001,0001,0001;", true);
        item("", "t1,1,1,1,;", false);
        item("", "t1,1,1,1,00001;", false);
        item(TWO, "f1,9999,1;", true);
        item(TWO, "f1,10000,1;", false);
    }

    /** "each a letter, numbers parted by , and ;": as many numbers as the item has, no more, no less. */
    private static void numbersOfAnItem() {
        String[] items = {"f1,1,1", "c1", "b1,1,1,1,1,1", "a0,1", "s0,1", "q1", "k1,1", "n1"};
        for (String one : items) {
            item(TWO, one + ";", true);
            item(TWO, one + ",1;", false);
            item(TWO, one + ",;", false);
            item(TWO, one + ",", false);
            item(TWO, one + ",1,1,1,1,1,1,1;", false);
            int cut = one.lastIndexOf(',');
            item(TWO, (cut < 0 ? one.substring(0, 1) : one.substring(0, cut)) + ";", false);
            item(TWO, one.charAt(0) + "," + one.substring(1) + ";", false);
            item(TWO, one.replaceFirst(",", ",,") + (cut < 0 ? "," : "") + ";", false);
        }
        item("", "t1,1,1,1,1;", true);
        item("", "t1,1,1,1;", false);
        item("", "t1,1,1,1,1,1;", false);
    }

    /** "each a letter": every byte ahead of every number of numbers. */
    private static void letters() {
        String[] numbers = {"", "1", "0,1", "1,1,1", "1,1,1,1", "1,1,1,1,1", "1,1,1,1,1,1", "1,1,1,1,1,1,1"};
        String[] so = {"", "cnq", "ask", "f", "", "", "b", ""};
        for (int many = 0; many < numbers.length; many++) {
            for (int sign = 0; sign < 256; sign++) {
                String one = (char) sign + numbers[many] + ";";
                item(TWO, one, so[many].indexOf(sign) >= 0);
                item("", one, many == 5 && sign == 't');
            }
        }
    }

    /** "numbers parted by , and ;": every byte in every place of an item. */
    private static void signs() {
        String due = "k12,5;";
        String[] so = {"k", "01", "0123456789", ",", "123456789", ";"};
        for (int place = 0; place < due.length(); place++) {
            for (int sign = 0; sign < 256; sign++) {
                String one = due.substring(0, place) + (char) sign + due.substring(place + 1);
                item(TWO, one, so[place].indexOf(sign) >= 0);
            }
        }
    }

    private static String spelled(char letter, int[] numbers, int k, int value) {
        StringBuilder s = new StringBuilder().append(letter);
        for (int j = 0; j < numbers.length; j++) {
            s.append(j == 0 ? "" : ",").append(j == k ? value : numbers[j]);
        }
        return s.append(';').toString();
    }

    private static void bounds(String before, char letter, int[] good, int[] low, int[] high) {
        for (int k = 0; k < good.length; k++) {
            item(before, spelled(letter, good, k, good[k]), true);
            item(before, spelled(letter, good, k, low[k]), true);
            item(before, spelled(letter, good, k, high[k]), true);
            if (low[k] > 0) {
                item(before, spelled(letter, good, k, low[k] - 1), false);
                item(before, spelled(letter, good, k, 0), false);
            }
            item(before, spelled(letter, good, k, high[k] + 1), false);
            if (high[k] < 9999) {
                item(before, spelled(letter, good, k, 9999), false);
            }
        }
    }

    /** The bounds between brackets in the list of ITEMS, each number alone. */
    private static void boundsOfNumbers() {
        bounds("", 't', new int[] {2, 10, 0, 95, 5}, new int[] {1, 1, 0, 0, 0}, new int[] {6, 60, 40, 95, 999});
        bounds(TANK, 'f', new int[] {2, 5, 5}, new int[] {1, 0, 1}, new int[] {3, 9999, 30});
        bounds(TANK, 'c', new int[] {5}, new int[] {0}, new int[] {9});
        bounds(TANK, 'b', new int[] {10, 0, 99, 5, 5, 5}, new int[] {1, 0, 0, 1, 0, 0}, new int[] {99, 99, 99, 20, 60, 99});
        bounds(TANK, 'q', new int[] {5}, new int[] {0}, new int[] {9});
        bounds(TANK, 'k', new int[] {5, 5}, new int[] {0, 1}, new int[] {20, 30});
        bounds(TANK, 'n', new int[] {5}, new int[] {1}, new int[] {60});
        int[] high = {99, 97, 98, 20, 60, 96};
        BathNight x = Check.laid(TANK + "b1,0,0,1,0,0;b99,97,98,20,60,96;c9;n60;");
        for (int what = 0; what < 6; what++) {
            Check.due("bather(0, " + what + ")", x.bather(0, what), what == 0 || what == 3 ? 1 : 0);
            Check.due("bather(1, " + what + ")", x.bather(1, what), high[what]);
        }
        Check.due("count(6)", x.count(6), 9);
        Check.due("count(2)", x.count(2), 60);
    }

    /** "at first all is H degrees (0 to 95; no less than C)". */
    private static void coldAndFirst() {
        item("", "t1,1,20,19,0;", false);
        item("", "t1,1,20,20,0;", true);
        item("", "t1,1,20,21,0;", true);
        item("", "t1,1,0,0,0;", true);
        item("", "t1,1,1,0,0;", false);
        item("", "t1,1,40,39,0;", false);
        item("", "t1,1,40,40,0;", true);
        item("", "t1,1,41,41,0;", false);
    }

    /** "of L to H degrees (0 to 99, L no more than H)". */
    private static void coolestAndHottest() {
        item(TANK, "b1,50,49,1,0,0;", false);
        item(TANK, "b1,50,50,1,0,0;", true);
        item(TANK, "b1,50,51,1,0,0;", true);
        item(TANK, "b1,1,0,1,0,0;", false);
        item(TANK, "b1,99,98,1,0,0;", false);
        item(TANK, "b1,99,99,1,0,0;", true);
        item(TANK, "b1,100,100,1,0,0;", false);
    }

    /** "(both told ahead, unlike)". */
    private static void pairs() {
        String one = "b1,1,1,1,1,1;";
        for (char letter : new char[] {'a', 's'}) {
            for (int told = 0; told <= 6; told++) {
                String before = TANK + times(one, told);
                for (int i = 0; i <= 7; i++) {
                    for (int j = 0; j <= 7; j++) {
                        item(before, letter + "" + i + "," + j + ";", i < told && j < told && i != j);
                    }
                }
            }
            // told behind it is not told ahead
            String early = TANK + one;
            fault(early + letter + "0,1;" + one, early.length());
            fault(early + letter + "1,0;" + one, early.length());
            fault(early + one + letter + "1,0;" + letter + "0,1;" + one, NONE);
        }
        BathNight x = Check.laid(TANK + times(one, 6) + "a0,5;a5,0;a0,1;a0,5;s1,2;s1,0;s4,3;s4,5;");
        int[] after = {34, 0, 0, 0, 0, 1};
        int[] water = {0, 5, 0, 0, 40, 0};
        for (int i = 0; i < 6; i++) {
            Check.due("bather(" + i + ", 6)", x.bather(i, 6), after[i]);
            Check.due("bather(" + i + ", 7)", x.bather(i, 7), water[i]);
        }
    }

    /** "6 at most, 0, 1, .. as they come". */
    private static void sixBathers() {
        StringBuilder s = new StringBuilder(TANK);
        for (int i = 0; i < 6; i++) {
            BathNight x = Check.laid(s.toString());
            Check.due("count(0) of " + i, x.count(0), i);
            Check.due("bather(" + i + ", 0) not told", x.bather(i, 0), BathNight.BAD);
            item(s.toString(), "b" + (i + 1) + ",1,1,1,1,1;", true);
            s.append("b").append(i + 1).append(",1,1,1,1,1;");
        }
        item(s.toString(), "b7,1,1,1,1,1;", false);
        item(s + "n5;", "b7,1,1,1,1,1;", false);
        BathNight x = Check.laid(s.toString());
        for (int i = 0; i < 6; i++) {
            Check.due("bather(" + i + ", 0)", x.bather(i, 0), i + 1);
        }
        Check.due("bather(6, 0)", x.bather(6, 0), BathNight.BAD);
    }

    /** "first of all ITEMS, once". */
    private static void tankFirstAndOnce() {
        String[] others = {"f1,1,1;", "c1;", "b1,1,1,1,1,1;", "q1;", "k1,1;", "n1;"};
        for (String one : others) {
            fault(one, 0);
            fault(one + TANK, 0);
            fault(TANK + one, NONE);
            fault(TANK + one + TANK, TANK.length() + one.length());
            fault(TANK + TANK + one, TANK.length());
        }
        fault(TANK, NONE);
        fault(TANK + "t1,1,1,1,1;", TANK.length());
        fault(TANK + "t0,0,0,0,0;", TANK.length());
    }

    /** "FAULT: the place of the first byte of the first ITEM that is not so (of an empty TEXT: 0)". */
    private static void placeOfFault() {
        String[] items = {TANK, "b1,1,1,1,1,1;", "b1,1,1,1,1,1;", "a0,1;", "f1,1,1;", "c1;", "q1;", "k1,1;", "s1,0;", "n1;"};
        String[] wrong = {"t2,10,10,9,5;", "b1,1,1,1,1;", "b1,1,1,0,1,1;", "a0,0;", "f1,1,31;", "c10;", "q;", "x1,1;", "s1,2;", "n61;"};
        fault("", 0);
        fault(String.join("", items), NONE);
        for (int k = 0; k < items.length; k++) {
            StringBuilder s = new StringBuilder();
            int place = 0;
            for (int j = 0; j < items.length; j++) {
                place += j < k ? items[j].length() : 0;
                s.append(j == k ? wrong[j] : items[j]);
            }
            fault(s.toString(), place);
            // whatever comes behind the first one
            fault(s + "n0;", place);
            fault(s.substring(0, place) + wrong[k] + "?", place);
        }
        BathNight x = new BathNight();
        Check.due("fault() of an empty text", x.fault(), 0);
        Check.due("lay() of an empty text", x.lay(), BathNight.NO);
        Check.tell(x, TANK);
        x.wipe();
        Check.due("fault() of a wiped text", x.fault(), 0);
    }

    /** "; (behind the last one, too)": a text cut at every place. */
    private static void unfinished() {
        String whole = TWO + "a0,1;s1,0;f3,9999,30;c9;q0;k20,1;n60;";
        int begin = 0;
        for (int cut = 1; cut <= whole.length(); cut++) {
            boolean end = whole.charAt(cut - 1) == ';';
            fault(whole.substring(0, cut), end ? NONE : begin);
            begin = end ? cut : begin;
        }
        BathNight x = new BathNight();
        Check.tell(x, TANK + "n5");
        Check.due("fault() ahead of the end", x.fault(), TANK.length());
        x.write(1, ';');
        Check.due("fault() behind the end", x.fault(), NONE);
        x.write(1, ';');
        Check.due("fault() of an end too much", x.fault(), TANK.length() + 3);
        // what a longer text had in that place is read no more
        Check.tell(x, TANK + "n5;n6;");
        Check.tell(x, TANK + "n5");
        Check.due("fault() where an earlier text had an end", x.fault(), TANK.length());
        Check.tell(x, TANK);
        Check.due("fault() where an earlier text had items", x.fault(), NONE);
        Check.due("lay() where an earlier text had items", x.lay(), 0);
        Check.due("count(2) where an earlier text had items", x.count(2), 40);
    }

    /** "0, 1 without", "0 without", "1 without", "40 without". */
    private static void without() {
        // stages that are not told give nothing and last one step
        for (int n = 1; n <= 4; n++) {
            BathNight x = Check.laid("t1,1,0,0,0;c1;f2,7,1;n" + n + ";");
            x.plan(0, true);
            Check.due("left(0, 0) of " + n, x.left(0, 0), n == 1 ? 0 : 7);
            Check.due("left(0, 7) of " + n, x.left(0, 7), Math.max(0, 3 - n));
        }
        BathNight x = Check.laid("t1,10,0,50,0;f3,100,1;b10,0,50,1,39,99;b10,0,50,1,40,99;b5,10,20,1,0,9;");
        Check.due("count(6) without c", x.count(6), 0);
        x.plan(0, true);
        Check.due("left(1, 7) without c", x.left(1, 7), 0);
        Check.due("count(2) without n", x.count(2), 40);
        Check.due("evening(1, 0, 0) at the last step", x.evening(1, 0, 0), 39);
        Check.due("evening(1, 1, 0) behind the last step", x.evening(1, 1, 0), NONE);
        Check.due("bath(2, true, 0) without k", x.bath(2, true, 0), 1);
        Check.due("bath(2, false, 0) without k", x.bath(2, false, 0), 1);
        // one degree a step in the tub
        x = Check.laid("t1,10,0,50,0;b10,50,50,7,0,99;b10,43,43,1,0,99;s1,0;");
        Check.due("evening(0, 1, 2) without q", x.evening(0, 1, 2), 43);
        // a kettle of ten pints more than none is hot at step 1
        x = Check.laid("t1,10,0,0,0;b20,50,50,1,0,9;");
        Check.due("bigger(0, 3) without k", x.bigger(0, 3), 2);
    }

    /** "the last one of S", "of several such the last one counts". */
    private static void lastOneCounts() {
        BathNight x = Check.laid("t1,1,0,0,0;f3,9,9;f2,9,9;f1,9,9;f2,20,2;f1,30,3;f3,10,1;c9;c0;c1;n50;n6;n7;");
        Check.due("count(6)", x.count(6), 1);
        Check.due("count(2)", x.count(2), 7);
        x.plan(0, true);
        Check.due("left(0, 0)", x.left(0, 0), 140);
        Check.due("left(0, 7)", x.left(0, 7), 0);
        x = Check.laid("t1,10,0,50,0;b10,50,50,2,0,9;b10,50,50,2,0,9;s1,0;q9;q0;");
        Check.due("evening(0, 1, 3): the last q", x.evening(0, 1, 3), 0);
        x = Check.laid("t1,10,0,0,0;b20,50,50,1,0,99;k9,1;k20,30;k10,3;");
        Check.due("evening(0, 0, 0): the last k", x.evening(0, 0, 0), 3);
        Check.due("bath(0, true, 1): the last k", x.bath(0, true, 1), 50);
    }

    /** "at first t1,10,10,10,0;", promise 1: "As told; THE TEXT is empty". */
    private static void laidAtFirst() {
        BathNight x = new BathNight();
        for (int h = 0; h <= 10; h++) {
            Check.due("new: drawn(" + h + ", -1)", x.drawn(h, -1), 10 * h);
            Check.due("new: drawn(" + h + ", 0)", x.drawn(h, 0), 100);
        }
        Check.due("new: drawn(11, -1)", x.drawn(11, -1), BathNight.BAD);
        Check.due("new: left(1, 0)", x.left(1, 0), 10);
        x.wipe();
        BathNight same = Check.laid("t1,10,10,10,0;");
        same.wipe();
        Check.due("a new house is as one of t1,10,10,10,0;", State.of(new BathNight()).equals(State.of(same)) ? 1 : 0, 1);
    }

    /** "ROW, X, PLAN, tenths as at first, nothing KEPT; THE TEXT stays". */
    private static void laidAnew() {
        BathNight x = Check.laid(TWO);
        for (int k = 0; k < 2; k++) {
            x.row(0, 1 - k);
            x.hot(7 + k);
            x.plan(3 + k, true);
            x.plan(59 - k, true);
            x.tenths(0, 2);
            x.tenths(5, 8);
            x.keep();
        }
        x.row(0, 1);
        Check.due("lay() once more", x.lay(), 2);
        Check.due("count(3) behind lay()", x.count(3), TWO.length());
        Check.due("all is as newly laid", State.of(x).equals(State.of(Check.laid(TWO))) ? 1 : 0, 1);
    }

    /** What is not told in a text is as it is without it, whatever earlier texts told. */
    private static void nothingLeftOfEarlierHouses() {
        String[] later = {TWO, "t1,10,10,10,0;", "t3,7,20,60,0;b5,30,40,2,1,9;b4,30,40,2,1,9;f2,7,2;c3;", "t1,1,0,0,0;c9;n3;",
            "t1,1,0,0,0;c9;n2;f3,5,1;", "t1,1,0,0,0;c9;n4;f1,5,1;", "t1,10,0,50,0;b10,50,50,2,0,9;b10,48,48,1,0,9;s1,0;"};
        for (String text : later) {
            BathNight fresh = Check.laid(text);
            fresh.plan(0, true);
            String due = State.of(fresh);
            for (int before = 1; before <= 3; before++) {
                BathNight x = Check.laid(RICH);
                for (int k = 1; k < before; k++) {
                    x.plan(k, true);
                    x.score(1, 2);
                    x.bigger(1, 3);
                    x.lay();
                }
                Check.tell(x, text);
                x.lay();
                x.plan(0, true);
                Check.due(before + " rich houses leave nothing in " + text, State.of(x).equals(due) ? 1 : 0, 1);
            }
        }
    }
}
