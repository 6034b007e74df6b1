/** Promises 14 to 17: what would be. */
public final class WouldBeTest {
    /** What comes to the last is 1 by 81 of what runs over of the first: 999 and 1000 measures. */
    private static final String NEEDS_999 = "9:1--/9:2--/2:3--/2:4--/2:5--/3";
    private static final String NEEDS_1000 = "1:1--/9:2--/9:3--/9:4--/8";

    public static void main(String[] args) {
        needLeastWhole();
        needNothing();
        needOfWhatTakesNothing();
        needGreatest();
        needNone();
        needFromNow();
        needFromEach();
        needUnknown();
        needAllOfASet();
        needAllOfNoGlass();
        needAllOfAll();
        needAllGreatest();
        needAllNone();
        needAllRefused();
        changeMeasures();
        changeHoldsAndKind();
        changeSharesStay();
        changeRunsOverFirst();
        changeWhatIsInStays();
        changeLeast();
        changeLessThanWithout();
        changeOfLikeOnes();
        changeNone();
        changeWhat();
        changeChangesNothing();
        changeRefused();
        changeThirtyTimes();
        costsWithAndWithout();
        costsWhenEmpty();
        costsNothing();
        costsOfKinds();
        costsInLowestTerms();
        costsRefused();
        Check.end();
    }

    // ---- promise 14

    private static void needLeastWhole() {
        Check.says("the least whole number of measures (0 to 999) poured into that one now by which it is FULL");
        PouredTopmost x = Check.standing("2:12/3:3/k1:3/4/c1");
        Check.due("itself", x.need(0, 0), 2);
        Check.due("twice 3, and 2", x.need(1, 0), 8);
        Check.due("3 1/2 by 2 more, a half by 1", x.need(3, 0), 9);
        PouredTopmost thirds = Check.standing("1:1--/1");
        thirds.pour(0, 2);
        Check.due("2 thirds are 2 more", thirds.need(1, 0), 2);
        PouredTopmost most = Check.standing("l1:1-/1");
        Check.due("3 halves are 2, and 1", most.need(1, 0), 3);
    }

    private static void needNothing() {
        Check.says("(0 to 999)");
        PouredTopmost x = Check.standing("3:1/2");
        x.pour(0, 4);
        Check.due("it is full", x.need(0, 0), 0);
        Check.due("from another", x.need(0, 1), 0);
        Check.due("the other one is not", x.need(1, 0), 1);
        x.pour(1, 1);
        Check.due("now it is", x.need(1, 0), 0);
        Check.due("now it is", x.need(1, 1), 0);
        x.drink(1);
        Check.due("emptied", x.need(1, 1), 2);
    }

    private static void needOfWhatTakesNothing() {
        Check.says("What takes nothing is FULL.");
        PouredTopmost x = Check.standing("2/k9/s9/c1");
        for (int of = 1; of <= 3; of++) {
            for (int from = 0; from <= 3; from++) {
                Check.due("of " + of + " from " + from, x.need(of, from), 0);
            }
        }
    }

    private static void needGreatest() {
        Check.says("(0 to 999)");
        PouredTopmost x = Check.standing("3:1--/k1:2--/k1:3--/k1:4--/9");
        Check.due("3 and 729", x.need(4, 0), 732);
        PouredTopmost y = Check.standing("l9:--1/l9:--2/c6:3--/k1:4--/k1:5-/c2/8");
        Check.due("9, 36, 80 and 288", y.need(5, 0), 413);
        PouredTopmost z = Check.standing(NEEDS_999);
        Check.due("9, 27, 18, 54, 162 and 729", z.need(5, 0), 999);
        z.pour(0, 1);
        Check.due("one less", z.need(5, 0), 998);
        z.drink(0);
        Check.due("emptied", z.need(5, 0), 999);
    }

    private static void needNone() {
        Check.says("by which it is FULL (as much is in it as it TAKES); none.");
        PouredTopmost more = Check.standing(NEEDS_1000);
        Check.due("1, 27, 81, 243 and 648", more.need(4, 0), Check.NONE);
        more.pour(0, 1);
        Check.due("one less", more.need(4, 0), 999);
        PouredTopmost x = Check.standing("2:1/3/4");
        Check.due("not from below", x.need(0, 1), Check.NONE);
        Check.due("not beside", x.need(2, 0), Check.NONE);
        Check.due("one by one they are 2", x.need(1, 0), 5);
    }

    private static void needFromNow() {
        Check.says("poured into that one now");
        PouredTopmost x = Check.standing("3:1-/2");
        x.pour(0, 4);
        Check.due("a half is there", x.need(1, 0), 3);
        Check.due("a half is there", x.need(1, 1), 2);
        x.drink(0);
        Check.due("emptied", x.need(0, 0), 3);
        Check.due("emptied above", x.need(1, 0), 6);
        Check.refused(x, "it only would be", () -> x.need(1, 0), 6);
        x.clear();
        Check.due("cleared", x.need(1, 0), 7);
        PouredTopmost all = Check.standing("9:1/9");
        for (int i = 0; i < 101; i++) {
            all.pour(1, 99);
        }
        Check.due("though 9999 were poured", all.need(0, 0), 9);
    }

    private static void needFromEach() {
        Check.says("NEED, of a GLASS from another one (or the same)");
        PouredTopmost x = Check.standing("2:12/3:3/k1:3/4");
        int[][] due = {{2, -1, -1, -1}, {8, 3, -1, -1}, {0, 0, 0, 0}, {9, 7, 4, 4}};
        for (int of = 0; of < 4; of++) {
            for (int from = 0; from < 4; from++) {
                Check.due("of " + of + " from " + from, x.need(of, from), due[of][from]);
            }
        }
        PouredTopmost nine = Check.standing("1:1/1:2/1:3/1:4/1:5/1:6/1:7/1:8/1");
        for (int from = 0; from < 9; from++) {
            Check.due("the last of nine from " + from, nine.need(8, from), 9 - from);
        }
    }

    private static void needUnknown() {
        Check.says("UNKNOWN: of, from.");
        PouredTopmost x = Check.standing("2:1/3");
        for (int glass : new int[] {Integer.MIN_VALUE, -1, 2, 9, Integer.MAX_VALUE}) {
            Check.refused(x, "of " + glass, () -> x.need(glass, 0), Check.UNKNOWN);
            Check.refused(x, "from " + glass, () -> x.need(0, glass), Check.UNKNOWN);
            Check.refused(x, "both " + glass, () -> x.need(glass, glass), Check.UNKNOWN);
        }
    }

    // ---- promise 15

    private static void needAllOfASet() {
        Check.says("NEEDALL: likewise for a set of GLASSES, from GLASS 0.");
        PouredTopmost x = Check.standing("2:12/3:3/1:3/4");
        Check.due("0", x.needAll(1), 2);
        Check.due("1", x.needAll(2), 8);
        Check.due("2", x.needAll(4), 4);
        Check.due("0 and 2", x.needAll(5), 4);
        Check.due("3", x.needAll(8), 10);
        x.pour(0, 3);
        Check.due("0 and 2 now", x.needAll(5), 1);
        x.pour(0, 1);
        Check.due("both are full", x.needAll(5), 0);
    }

    private static void needAllOfNoGlass() {
        Check.says("OUTSIDE: set (bits of GLASSES).");
        PouredTopmost x = Check.standing("2:1/3");
        Check.due("a set of none", x.needAll(0), 0);
        x.pour(0, 99);
        Check.due("a set of none", x.needAll(0), 0);
    }

    private static void needAllOfAll() {
        Check.says("NEEDALL: likewise for a set of GLASSES, from GLASS 0.");
        PouredTopmost x = Check.standing("2:12/3:3/1:3/4");
        Check.due("all", x.needAll(15), 10);
        x.pour(0, 3);
        Check.due("all now", x.needAll(15), 7);
        PouredTopmost nine = Check.standing("1/k1/k1/k1/k1/k1/k1/k1/c1");
        Check.due("all nine", nine.needAll(511), 1);
        Check.due("what takes nothing is full", nine.needAll(510), 0);
        PouredTopmost one = Check.standing("9");
        Check.due("the only one", one.needAll(1), 9);
    }

    private static void needAllGreatest() {
        Check.says("(0 to 999)");
        PouredTopmost z = Check.standing(NEEDS_999);
        Check.due("the last", z.needAll(32), 999);
        Check.due("all", z.needAll(63), 999);
        PouredTopmost more = Check.standing(NEEDS_1000);
        Check.due("all", more.needAll(31), Check.NONE);
        Check.due("all but the last", more.needAll(15), 352);
        more.pour(0, 1);
        Check.due("one less", more.needAll(31), 999);
    }

    private static void needAllNone() {
        Check.says("NEEDALL; NONE.");
        PouredTopmost apart = Check.standing("1/1");
        Check.due("none comes there", apart.needAll(3), Check.NONE);
        Check.due("none comes there", apart.needAll(2), Check.NONE);
        apart.pour(1, 1);
        Check.due("it is full", apart.needAll(3), 1);
    }

    private static void needAllRefused() {
        Check.says("STATE: no TOWER; OUTSIDE: set (bits of GLASSES).");
        PouredTopmost x = Check.standing("2:12/3:3/1:3/4");
        for (int set : new int[] {Integer.MIN_VALUE, -1, 16, 17, 31, 512, 1 << 30, Integer.MAX_VALUE}) {
            Check.refused(x, "set " + set, () -> x.needAll(set), Check.OUTSIDE);
            Check.due("no tower goes first", new PouredTopmost().needAll(set), Check.STATE);
        }
        PouredTopmost nine = Check.standing("1/k1/k1/k1/k1/k1/k1/k1/c1");
        Check.refused(nine, "a tenth", () -> nine.needAll(512), Check.OUTSIDE);
        Check.refused(nine, "a tenth, too", () -> nine.needAll(1023), Check.OUTSIDE);
        Check.due("no tower, no glass", new PouredTopmost().needAll(0), Check.STATE);
    }

    // ---- promise 16

    private static void changed(PouredTopmost x, int measures, int lesser, int greater) {
        Check.due("lesser by " + measures, x.change(measures, 0), lesser);
        Check.due("greater by " + measures, x.change(measures, 1), greater);
    }

    private static void changed(String text, int measures, int lesser, int greater) {
        changed(Check.standing(text), measures, lesser, greater);
    }

    private static void changeMeasures() {
        Check.says("LEAST SPILT by so many measures (1 to 99) poured into GLASS 0 now");
        changed("k1/9", 1, 0, 1);
        changed("1/9", 1, Check.NONE, Check.NONE);
        changed("1/9", 2, 0, 1);
        changed("1/9", 99, 0, 1);
        // 9, then 18, then 32 by which 8 come to glass 2: from 60 on another 9 would take more.
        changed("9:1-/9:2-/8/9", 59, Check.NONE, Check.NONE);
        changed("9:1-/9:2-/8/9", 60, 2, 3);
        changed("9:1-/9:2-/8/9", 99, 2, 3);
    }

    private static void changeHoldsAndKind() {
        Check.says("HOLDS and KIND of the one with those of the other one");
        changed("1:1-/9", 9, 0, 1);
        // A leaning glass at the top would send two thirds to glass 1 instead of a half.
        changed("9:1-/9/l9", 18, 0, 2);
        // A cork goes with its glass, and so does a chip.
        changed("k9:1-/5", 4, 0, 1);
        changed("s9/c9/5", 9, 0, 1);
        changed("c5/5", 5, 0, 1);
        changed("c5/4", 5, Check.NONE, Check.NONE);
    }

    private static void changeSharesStay() {
        Check.says("what it RUNS OVER into stays with the place");
        // At the top 2 runs over into 1 by the place's share; with its own all would be spilt.
        changed("1:1/3/2:-", 6, 0, 2);
        changed("1:1/3/2:-", 4, Check.NONE, Check.NONE);
    }

    private static void changeRunsOverFirst() {
        Check.says("what is in a GLASS that takes less then runs over first, GLASS by GLASS");
        PouredTopmost y = Check.standing("2:2/4/3");
        y.pour(1, 4);
        y.pour(0, 5);
        // 0 with 1: 2 of glass 1 are spilt, and 1 of 3: 3, as now.
        changed(y, 3, Check.NONE, Check.NONE);
        PouredTopmost z = Check.standing("2:2/4/3");
        z.pour(1, 3);
        z.pour(0, 5);
        // Now 1 of glass 1 and 1 of 3 are spilt: less than 3 without.
        changed(z, 3, 0, 1);
        PouredTopmost w = Check.standing("2:1/6:2-/4");
        w.pour(1, 6);
        // 2 are spilt without, and with 0 for 1; 3 with 1 for 2; 1 with 0 for 2.
        changed(w, 6, 0, 2);
        PouredTopmost down = Check.standing("1:-/5:2/k9:3/9");
        down.pour(1, 5);
        // 0 with 1: 4 of glass 1 come by glass 2 into 3, so that none is spilt, as by 0 with 3.
        changed(down, 5, 0, 1);
        PouredTopmost cork = Check.standing("1:-/5:2/k9:3/3");
        cork.pour(1, 5);
        // 0 with 1: 4 of glass 1 come to 3, which takes 3: by 4 as much is spilt as by 0 with 3.
        changed(cork, 4, 0, 1);
        changed(cork, 5, 0, 1);
    }

    private static void changeWhatIsInStays() {
        Check.says("if two GLASSES were changed about (HOLDS and KIND of the one with those of the other one;");
        PouredTopmost x = Check.standing("9/2/5");
        x.pour(0, 9);
        // All of 0 that is more than the other takes would be spilt as well.
        changed(x, 1, Check.NONE, Check.NONE);
        PouredTopmost full = Check.standing("2/9/4");
        full.pour(1, 9);
        full.pour(0, 2);
        // What is in 1 stays in 1, and 7 of it would be spilt; 0 with 2 leaves room for 2 more.
        changed(full, 3, 0, 2);
    }

    private static void changeLeast() {
        Check.says("the pair by which what is SPILT by all that is least");
        changed("1/2/3/4", 9, 0, 3);
        changed("1/4/3/2", 9, 0, 1);
        changed("9:1/1:2/1/4/4", 15, 1, 3);
        changed("1/1/1/1/1/1/1/1/9", 9, 0, 8);
        changed("9:7/1/1/1/1/1/1/1:-/2", 99, 7, 8);
    }

    private static void changeLessThanWithout() {
        Check.says("if that is less than without");
        changed("1/1", 9, Check.NONE, Check.NONE);
        changed("5:1/3", 8, Check.NONE, Check.NONE);
        changed("5:1/3", 9, Check.NONE, Check.NONE);
        changed("1:1-/9", 19, Check.NONE, Check.NONE);
        // What was spilt before is the same with and without.
        PouredTopmost x = Check.standing("1/1/2");
        x.pour(1, 99);
        changed(x, 1, Check.NONE, Check.NONE);
        changed(x, 2, 0, 2);
        // 5 are spilt, 4 1/2 if 9 stood at the top: a half less is enough.
        changed("8:1-/9", 18, 0, 1);
    }

    private static void changeOfLikeOnes() {
        Check.says("of like ones the first (lesser, then greater one)");
        changed("1/3/3/2", 3, 0, 1);
        changed("1:3/2/2/1", 3, 0, 1);
        // None is spilt by 0 and 3, by 1 and 2, by 1 and 3.
        changed("5:1/1/3/6", 7, 0, 3);
        // By 1 and 2, by 1 and 3.
        changed("6:1/1/3/3", 8, 1, 2);
        // By 1 and 3, by 1 and 4, by 2 and 3, by 2 and 4; then by the last two alone.
        changed("6:1/3:2/1/4/4", 11, 1, 3);
        changed("6:1/3:2/1/4/4", 12, 2, 3);
    }

    private static void changeNone() {
        Check.says("of like ones the first (lesser, then greater one); none.");
        changed("1", 9, Check.NONE, Check.NONE);
        changed("9:1-/1", 9, Check.NONE, Check.NONE);
        changed("9/8/7/6/5/4/3/2/1", 99, Check.NONE, Check.NONE);
    }

    private static void changeWhat() {
        Check.says("what = 0, 1 the lesser, the greater of the pair; NONE: none");
        PouredTopmost x = Check.standing("6:1/3:2/1/4/4");
        Check.due("the lesser", x.change(12, 0), 2);
        Check.due("the greater", x.change(12, 1), 3);
        Check.due("none of either", x.change(10, 0), Check.NONE);
        Check.due("none of either", x.change(10, 1), Check.NONE);
        PouredTopmost ends = Check.standing("1/1/1/1/1/1/1/1/2");
        Check.due("the least lesser", ends.change(2, 0), 0);
        Check.due("the greatest greater", ends.change(2, 1), 8);
    }

    /** It only would be: no glass is changed about. */
    private static void changeChangesNothing() {
        Check.says("LEAST SPILT");
        PouredTopmost x = Check.standing("1:2/c9/5");
        x.pour(0, 4);
        x.turn(0, 3);
        x.image();
        long before = x.digest();
        changed(x, 5, 0, 1);
        Check.due("but for how often it was done", x.digest(), before + 2);
        Check.due("kind", x.about(0, 0), 0);
        Check.due("holds", x.about(0, 1), 1);
        Check.due("the image is there", x.restore(), 4);
    }

    private static void changeRefused() {
        Check.says("STATE: no TOWER; OUTSIDE: measures, what; STATE: change() was done 30 times.");
        PouredTopmost x = Check.standing("1/9");
        for (int measures : new int[] {Integer.MIN_VALUE, -1, 0, 100, Integer.MAX_VALUE}) {
            Check.refused(x, "measures " + measures, () -> x.change(measures, 0), Check.OUTSIDE);
            Check.refused(x, "measures " + measures, () -> x.change(measures, 1), Check.OUTSIDE);
            Check.due("no tower goes first", new PouredTopmost().change(measures, 2), Check.STATE);
        }
        for (int what : new int[] {Integer.MIN_VALUE, -1, 2, Integer.MAX_VALUE}) {
            Check.refused(x, "what " + what, () -> x.change(1, what), Check.OUTSIDE);
            Check.refused(x, "what " + what, () -> x.change(99, what), Check.OUTSIDE);
        }
        Check.due("none was done", x.count(5), 0);
    }

    private static void changeThirtyTimes() {
        Check.says("STATE: change() was done 30 times");
        PouredTopmost x = Check.standing("1/9");
        for (int i = 0; i < 30; i++) {
            Check.due("done", x.count(5), i);
            Check.due("change " + i, x.change(i + 1, i % 2), i == 0 ? Check.NONE : i % 2);
            Check.due("what is refused was not done", x.change(100, 0), Check.OUTSIDE);
        }
        Check.refused(x, "31st", () -> x.change(9, 0), Check.STATE);
        Check.refused(x, "31st", () -> x.change(9, 1), Check.STATE);
        Check.refused(x, "measures go first", () -> x.change(0, 0), Check.OUTSIDE);
        Check.refused(x, "what goes first", () -> x.change(1, 2), Check.OUTSIDE);
        Check.due("done", x.count(5), 30);
        x.clear();
        Check.write(x, "1/2");
        x.tower();
        Check.refused(x, "another tower does not help", () -> x.change(9, 0), Check.STATE);
    }

    // ---- promise 17

    private static void costs(PouredTopmost x, int glass, int measures, long above, long below) {
        Check.fraction("costs(" + glass + ", " + measures + ")", x.costs(glass, measures, 0),
            x.costs(glass, measures, 1), above, below);
    }

    private static void costsWithAndWithout() {
        Check.says("how much more would be in all others together, if this one took nothing");
        PouredTopmost x = Check.standing("2:12-/1:2/3");
        costs(x, 0, 1, 2, 3);
        costs(x, 0, 2, 4, 3);
        costs(x, 0, 3, 4, 3);
        costs(x, 1, 2, 0, 1);
        costs(x, 1, 3, 1, 3);
        costs(x, 1, 4, 2, 3);
        costs(x, 2, 4, 0, 1);
        // By 7 glass 2 is full without 1; by 8 it is with it, too.
        costs(x, 1, 6, 1, 1);
        costs(x, 1, 7, 2, 3);
        costs(x, 1, 8, 0, 1);
        costs(x, 1, 99, 0, 1);
        costs(x, 0, 99, 0, 1);
        costs(Check.standing("9:1/9:2/9:3/9:4/9"), 0, 99, 0, 1);
        costs(Check.standing("9:1/9:2/9:3/9:4/9"), 0, 36, 9, 1);
        costs(Check.standing("9:1/9:2/9:3/9:4/9"), 0, 40, 5, 1);
    }

    private static void costsWhenEmpty() {
        Check.says("by so many measures (1 to 99) poured into GLASS 0 of THE TOWER when it is empty");
        PouredTopmost x = Check.standing("2:12-/1:2/3");
        x.pour(0, 9);
        x.pour(2, 9);
        costs(x, 0, 2, 4, 3);
        Check.refused(x, "it only would be", () -> x.costs(0, 2, 0), 4);
        Check.refused(x, "it only would be", () -> x.costs(0, 2, 1), 3);
        costs(Check.standing("9/9:2/9"), 1, 99, 0, 1);
    }

    private static void costsNothing() {
        Check.says("if this one took nothing");
        PouredTopmost z = Check.standing("k3:1/c1:2/s3:3/c4:4/3");
        costs(z, 0, 3, 0, 1);
        costs(z, 1, 3, 0, 1);
        costs(z, 2, 3, 0, 1);
        costs(z, 3, 3, 3, 1);
        costs(z, 4, 3, 0, 1);
        costs(Check.standing("1"), 0, 1, 0, 1);
        costs(Check.standing("9/9"), 0, 9, 0, 1);
    }

    /** A leaning glass that takes nothing leans as before. */
    private static void costsOfKinds() {
        Check.says("if this one took nothing");
        costs(Check.standing("l3:12/1/9"), 0, 3, 2, 1);
        costs(Check.standing("l3:1-/9"), 0, 3, 2, 1);
        costs(Check.standing("l3:1-/9"), 0, 6, 2, 1);
        costs(Check.standing("c4:1/2"), 0, 3, 2, 1);
        costs(Check.standing("c4:1/9"), 0, 9, 3, 1);
        costs(Check.standing("1:1/c9:2/9"), 1, 9, 8, 1);
    }

    private static void costsInLowestTerms() {
        Check.says("All is told in fractions of one measure, in lowest terms.");
        PouredTopmost x = Check.standing("6:1--/9");
        long[][] due = {{1, 3}, {2, 3}, {1, 1}, {4, 3}, {5, 3}, {2, 1}, {2, 1}};
        for (int measures = 1; measures <= due.length; measures++) {
            costs(x, 0, measures, due[measures - 1][0], due[measures - 1][1]);
        }
        costs(Check.standing("1:1--/k1:2--/k1:3--/k1:4--/k1:5--/k1:6--/k1:7--/k1:8--/9"), 0, 99, 1, 6561);
    }

    private static void costsRefused() {
        Check.says("COSTS. UNKNOWN; OUTSIDE: measures, part.");
        PouredTopmost x = Check.standing("2:12-/1:2/3");
        for (int glass : new int[] {Integer.MIN_VALUE, -1, 3, 9, Integer.MAX_VALUE}) {
            Check.refused(x, "glass " + glass, () -> x.costs(glass, 1, 0), Check.UNKNOWN);
            Check.refused(x, "glass goes first", () -> x.costs(glass, 0, 0), Check.UNKNOWN);
            Check.refused(x, "glass goes first", () -> x.costs(glass, 1, 2), Check.UNKNOWN);
        }
        for (int measures : new int[] {Integer.MIN_VALUE, -1, 0, 100, Integer.MAX_VALUE}) {
            Check.refused(x, "measures " + measures, () -> x.costs(0, measures, 0), Check.OUTSIDE);
            Check.refused(x, "measures " + measures, () -> x.costs(2, measures, 1), Check.OUTSIDE);
        }
        for (int part : new int[] {Integer.MIN_VALUE, -1, 2, Integer.MAX_VALUE}) {
            Check.refused(x, "part " + part, () -> x.costs(0, 1, part), Check.OUTSIDE);
            Check.refused(x, "part " + part, () -> x.costs(2, 99, part), Check.OUTSIDE);
        }
    }
}
