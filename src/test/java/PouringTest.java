/** What pouring and drinking are, by "Terms", and promises 8 to 13. */
public final class PouringTest {
    /** Nine glasses, of which each takes nothing and sends on a third. */
    private static final String THIRDS =
        "k1:1--/k1:2--/k1:3--/k1:4--/k1:5--/k1:6--/k1:7--/k1:8--/9";

    public static void main(String[] args) {
        byEqualShares();
        withoutSharesSpilt();
        theClothIsSpilt();
        oneComesTwice();
        chippedTakesOneLess();
        corkedTakesNothing();
        leaningFirstShare();
        stuckTakesNothing();
        lowestTerms();
        finestFractions();
        moreThanItTakes();
        glassByGlass();
        drinkingEmpties();
        pourHowMany();
        pourIntoEach();
        pourMeasures();
        pourUnknown();
        pourMost();
        pourMostByNinetyNine();
        inEachPart();
        inRefused();
        allSpiltAndTogether();
        allWithoutATower();
        allRefused();
        drinkWhetherAny();
        drinkStuck();
        drinkRefused();
        drunkSoFar();
        drunkOfNothing();
        drunkRefused();
        clearIsNothing();
        clearLeavesTheRest();
        clearWithoutATower();
        Check.end();
    }

    // ---- terms

    private static void byEqualShares() {
        Check.says("into which it RUNS OVER, by equal shares");
        PouredTopmost one = Check.standing("1:1/9");
        one.pour(0, 6);
        Check.inGlass(one, 1, 5, 1);
        PouredTopmost two = Check.standing("1:12/9/9");
        two.pour(0, 6);
        Check.inGlass(two, 1, 5, 2);
        Check.inGlass(two, 2, 5, 2);
        PouredTopmost three = Check.standing("1:123/9/9/9");
        three.pour(0, 6);
        for (int glass = 1; glass <= 3; glass++) {
            Check.inGlass(three, glass, 5, 3);
        }
        Check.ofAll(three, 0, 0, 1);
    }

    private static void withoutSharesSpilt() {
        Check.says("without these all of it is SPILT");
        for (String text : new String[] {"1", "l1", "c2"}) {
            PouredTopmost x = Check.standing(text + "/9");
            x.pour(0, 6);
            Check.inGlass(x, 0, 1, 1);
            Check.inGlass(x, 1, 0, 1);
            Check.ofAll(x, 0, 5, 1);
        }
    }

    private static void theClothIsSpilt() {
        Check.says("what comes to the cloth is SPILT");
        PouredTopmost all = Check.standing("1:-/9");
        all.pour(0, 4);
        Check.ofAll(all, 0, 3, 1);
        PouredTopmost half = Check.standing("1:-1/9");
        half.pour(0, 4);
        Check.inGlass(half, 1, 3, 2);
        Check.ofAll(half, 0, 3, 2);
        PouredTopmost two = Check.standing("1:--1/9");
        two.pour(0, 4);
        Check.inGlass(two, 1, 1, 1);
        Check.ofAll(two, 0, 2, 1);
        PouredTopmost three = Check.standing("1:---/9");
        three.pour(0, 4);
        Check.ofAll(three, 0, 3, 1);
    }

    private static void oneComesTwice() {
        Check.says("one may come twice");
        PouredTopmost two = Check.standing("1:11-/9");
        two.pour(0, 4);
        Check.inGlass(two, 1, 2, 1);
        Check.ofAll(two, 0, 1, 1);
        PouredTopmost both = Check.standing("1:11/9");
        both.pour(0, 4);
        Check.inGlass(both, 1, 3, 1);
        PouredTopmost apart = Check.standing("1:121/9/9");
        apart.pour(0, 4);
        Check.inGlass(apart, 1, 2, 1);
        Check.inGlass(apart, 2, 1, 1);
    }

    private static void chippedTakesOneLess() {
        Check.says("CHIPPED \"c\" (it takes one less than HOLDS)");
        PouredTopmost x = Check.standing("c9:1/c1:2/c2");
        x.pour(0, 9);
        Check.inGlass(x, 0, 8, 1);
        Check.inGlass(x, 1, 0, 1);
        Check.inGlass(x, 2, 1, 1);
        Check.ofAll(x, 0, 0, 1);
        x.pour(0, 1);
        Check.ofAll(x, 0, 1, 1);
    }

    private static void corkedTakesNothing() {
        Check.says("CORKED \"k\" (it takes nothing)");
        PouredTopmost x = Check.standing("k9:12/9/k1");
        x.pour(0, 6);
        Check.inGlass(x, 0, 0, 1);
        Check.inGlass(x, 1, 3, 1);
        Check.inGlass(x, 2, 0, 1);
        Check.ofAll(x, 0, 3, 1);
    }

    private static void leaning(String text, int poured, long[] in, long spiltAbove, long spiltBelow) {
        PouredTopmost x = Check.standing(text);
        x.pour(0, poured);
        for (int glass = 0; 2 * glass < in.length; glass++) {
            Check.inGlass(x, glass, in[2 * glass], in[2 * glass + 1]);
        }
        Check.ofAll(x, 0, spiltAbove, spiltBelow);
    }

    private static void leaningFirstShare() {
        Check.says("LEANING \"l\" (of what runs over the first share is twice each other one)");
        leaning("l1:1/9", 6, new long[] {1, 1, 5, 1}, 0, 1);
        leaning("l1:12/9/9", 6, new long[] {1, 1, 10, 3, 5, 3}, 0, 1);
        leaning("l1:123/9/9/9", 6, new long[] {1, 1, 5, 2, 5, 4, 5, 4}, 0, 1);
        leaning("l1:2-/9/9", 6, new long[] {1, 1, 0, 1, 10, 3}, 5, 3);
        leaning("l1:-1/9", 4, new long[] {1, 1, 1, 1}, 2, 1);
        leaning("l1:-11/9", 5, new long[] {1, 1, 2, 1}, 2, 1);
        leaning("l1:1-1/9", 5, new long[] {1, 1, 3, 1}, 1, 1);
        leaning("l1:11/9", 4, new long[] {1, 1, 3, 1}, 0, 1);
        leaning("l1:-", 4, new long[] {1, 1}, 3, 1);
        leaning("l9:12/9/9", 9, new long[] {9, 1, 0, 1, 0, 1}, 0, 1);
        leaning("1:12/l9/9", 6, new long[] {1, 1, 5, 2, 5, 2}, 0, 1);
    }

    private static void stuckTakesNothing() {
        Check.says("STUCK \"s\" (it takes nothing, but to drink from: never)");
        PouredTopmost x = Check.standing("2:12/s9:2/5");
        x.pour(0, 4);
        Check.inGlass(x, 1, 0, 1);
        Check.inGlass(x, 2, 2, 1);
        Check.due("into it", x.pour(1, 1), 5);
        Check.inGlass(x, 1, 0, 1);
        Check.inGlass(x, 2, 3, 1);
        Check.refused(x, "to drink from", () -> x.drink(1), Check.STATE);
        Check.refused(x, "a drinker", () -> x.turn(1, 1), Check.STATE);
    }

    private static void lowestTerms() {
        Check.says("All is told in fractions of one measure, in lowest terms.");
        PouredTopmost x = Check.standing("1:12-/9:3/9/9");
        long[][] due = {{0, 1}, {0, 1}, {1, 3}, {2, 3}, {1, 1}, {4, 3}, {5, 3}, {2, 1}};
        for (int poured = 0; poured < due.length; poured++) {
            Check.inGlass(x, 1, due[poured][0], due[poured][1]);
            Check.ofAll(x, 0, due[poured][0], due[poured][1]);
            x.pour(0, 1);
        }
        PouredTopmost y = Check.standing("l1:--1/9");
        long[][] fourths = {{0, 1}, {1, 4}, {1, 2}, {3, 4}, {1, 1}, {5, 4}};
        for (long[] fourth : fourths) {
            y.pour(0, 1);
            Check.inGlass(y, 1, fourth[0], fourth[1]);
        }
    }

    /** What no fraction with fewer places below could tell: thirds of thirds, fourths of fourths. */
    private static void finestFractions() {
        Check.says("All is told in fractions of one measure, in lowest terms.");
        PouredTopmost x = Check.standing(THIRDS);
        x.pour(0, 2);
        Check.inGlass(x, 8, 2, 6561);
        Check.ofAll(x, 0, 13120, 6561);
        Check.ofAll(x, 1, 2, 6561);
        x.drink(8);
        Check.drunkFrom(x, 8, 2, 6561);
        PouredTopmost y = Check.standing("l1:--1/l1:-2-/l1:-3-/l1:-4-/l1:-5-/l1:-6-/l1:-7-/l1:-8-/9");
        for (int i = 0; i < 9; i++) {
            y.pour(0, 99);
        }
        // 890 run over of glass 0, a fourth of that comes to glass 1, and so on.
        Check.inGlass(y, 1, 1, 1);
        Check.inGlass(y, 5, 275, 512);
        Check.inGlass(y, 6, 0, 1);
        PouredTopmost z = Check.standing(
            "l1:1--/l1:2--/l1:3--/l1:4--/l1:5--/k1:6--/k1:7--/k1:8--/9");
        z.pour(0, 99);
        // 98, 48, 23, 10 1/2 and 4 1/4 run over, a half of each goes on: 17/8 at last, by 27.
        Check.inGlass(z, 4, 1, 1);
        Check.inGlass(z, 8, 17, 216);
    }

    private static void moreThanItTakes() {
        Check.says("what is in it and more than it TAKES runs over, all at once");
        PouredTopmost x = Check.standing("5:1/9");
        x.pour(0, 4);
        Check.inGlass(x, 0, 4, 1);
        Check.inGlass(x, 1, 0, 1);
        x.pour(0, 1);
        Check.inGlass(x, 0, 5, 1);
        Check.inGlass(x, 1, 0, 1);
        x.pour(0, 1);
        Check.inGlass(x, 0, 5, 1);
        Check.inGlass(x, 1, 1, 1);
        x.drink(0);
        x.pour(0, 7);
        Check.inGlass(x, 0, 5, 1);
        Check.inGlass(x, 1, 3, 1);
    }

    private static void glassByGlass() {
        Check.says("GLASS by GLASS in order of number");
        PouredTopmost x = Check.standing("2:12/1:23/1:3/9");
        x.pour(0, 8);
        // 6 run over: 3 each way. Of 1 run over 2: 1 each way. Of 2 then 3.
        Check.inGlass(x, 0, 2, 1);
        Check.inGlass(x, 1, 1, 1);
        Check.inGlass(x, 2, 1, 1);
        Check.inGlass(x, 3, 4, 1);
        PouredTopmost nine = Check.standing("1:1/1:2/1:3/1:4/1:5/1:6/1:7/1:8/1");
        nine.pour(0, 10);
        for (int glass = 0; glass < 9; glass++) {
            Check.inGlass(nine, glass, 1, 1);
        }
        Check.ofAll(nine, 0, 1, 1);
        PouredTopmost past = Check.standing("1:8/1/1/1/1/1/1/1/9");
        past.pour(0, 4);
        Check.inGlass(past, 1, 0, 1);
        Check.inGlass(past, 8, 3, 1);
    }

    private static void drinkingEmpties() {
        Check.says("DRINKING empties a GLASS: what was in it is DRUNK by it.");
        PouredTopmost x = Check.standing("1:12-/9/9");
        x.pour(0, 2);
        x.drink(1);
        Check.inGlass(x, 0, 1, 1);
        Check.inGlass(x, 1, 0, 1);
        Check.inGlass(x, 2, 1, 3);
        Check.drunkFrom(x, 0, 0, 1);
        Check.drunkFrom(x, 1, 1, 3);
        Check.drunkFrom(x, 2, 0, 1);
        Check.ofAll(x, 0, 1, 3);
        Check.due("poured stays", x.count(1), 2);
    }

    // ---- promise 8

    private static void pourHowMany() {
        Check.says("POURING: how many measures were poured so far");
        PouredTopmost x = Check.standing("2:1/1/9");
        Check.due("one", x.pour(0, 1), 1);
        Check.due("two more", x.pour(1, 2), 3);
        x.drink(1);
        Check.due("drinking takes none of it away", x.pour(2, 99), 102);
        Check.due("count", x.count(1), 102);
    }

    private static void pourIntoEach() {
        Check.says("so much poured into one or another");
        PouredTopmost x = Check.standing("9/8/7/6/5/4/3/2/1");
        for (int glass = 0; glass < 9; glass++) {
            x.pour(glass, 10);
            Check.inGlass(x, glass, 9 - glass, 1);
            Check.ofAll(x, 0, (glass + 1L) * (glass + 2) / 2, 1);
        }
        PouredTopmost y = Check.standing("2:12/1:2/3");
        y.pour(1, 3);
        Check.inGlass(y, 0, 0, 1);
        Check.inGlass(y, 1, 1, 1);
        Check.inGlass(y, 2, 2, 1);
    }

    private static void pourMeasures() {
        Check.says("OUTSIDE: measures (1 to 99)");
        PouredTopmost x = Check.standing("5:1/5");
        for (int measures : new int[] {Integer.MIN_VALUE, -99, -1, 0, 100, Integer.MAX_VALUE}) {
            Check.refused(x, "measures " + measures, () -> x.pour(0, measures), Check.OUTSIDE);
        }
        Check.due("the least", x.pour(0, 1), 1);
        Check.due("the greatest", x.pour(0, 99), 100);
        Check.ofAll(x, 0, 90, 1);
    }

    private static void pourUnknown() {
        Check.says("UNKNOWN; OUTSIDE: measures (1 to 99); STATE: they would be more than 9999.");
        PouredTopmost x = Check.standing("5:1/5");
        for (int glass : new int[] {Integer.MIN_VALUE, -1, 2, 9, Integer.MAX_VALUE}) {
            Check.refused(x, "glass " + glass, () -> x.pour(glass, 1), Check.UNKNOWN);
            Check.refused(x, "glass goes first", () -> x.pour(glass, 0), Check.UNKNOWN);
            Check.refused(x, "glass goes first", () -> x.pour(glass, 100), Check.UNKNOWN);
        }
        PouredTopmost nine = Check.standing(THIRDS);
        Check.due("the last of nine", nine.pour(8, 1), 1);
        Check.refused(nine, "the cloth is no glass", () -> nine.pour(9, 1), Check.UNKNOWN);
    }

    private static void pourMost() {
        Check.says("STATE: they would be more than 9999");
        PouredTopmost x = Check.standing("5:1/5");
        for (int i = 1; i <= 100; i++) {
            Check.due("poured", x.pour(i % 2, 99), 99 * i);
        }
        Check.due("9900 and 98", x.pour(0, 98), 9998);
        Check.refused(x, "10000", () -> x.pour(0, 2), Check.STATE);
        Check.refused(x, "10097", () -> x.pour(1, 99), Check.STATE);
        Check.refused(x, "glass goes first", () -> x.pour(2, 2), Check.UNKNOWN);
        Check.refused(x, "measures go first", () -> x.pour(0, 100), Check.OUTSIDE);
        Check.refused(x, "measures go first", () -> x.pour(0, Integer.MAX_VALUE), Check.OUTSIDE);
        Check.due("9999", x.pour(0, 1), 9999);
        Check.refused(x, "10000", () -> x.pour(1, 1), Check.STATE);
        x.drink(0);
        Check.refused(x, "there is room, but it is too much", () -> x.pour(0, 1), Check.STATE);
        Check.ofAll(x, 0, 9989, 1);
        Check.due("cleared", x.clear(), 9999);
        Check.due("from 0 again", x.pour(1, 1), 1);
    }

    private static void pourMostByNinetyNine() {
        Check.says("STATE: they would be more than 9999");
        PouredTopmost x = Check.standing(THIRDS);
        for (int i = 1; i <= 101; i++) {
            Check.due("poured", x.pour(0, 99), 99 * i);
        }
        Check.refused(x, "10000", () -> x.pour(0, 1), Check.STATE);
        // 9999 by 6561: the greatest numbers that are told.
        Check.inGlass(x, 8, 1111, 729);
        Check.ofAll(x, 0, 7288160, 729);
        Check.due("tower", Check.write(x, "5") == 1 ? x.tower() : 0, 1);
        Check.due("another tower is empty", x.pour(0, 99), 99);
    }

    // ---- promises 9 and 10

    private static void inEachPart() {
        Check.says("What is in a GLASS: part 0 above, 1 below.");
        PouredTopmost x = Check.standing("1:12-/k9/9");
        x.pour(0, 3);
        Check.due("above", x.in(2, 0), 2);
        Check.due("below", x.in(2, 1), 3);
        Check.due("nothing, above", x.in(1, 0), 0);
        Check.due("nothing, below", x.in(1, 1), 1);
        Check.due("whole, above", x.in(0, 0), 1);
        Check.due("whole, below", x.in(0, 1), 1);
    }

    private static void inRefused() {
        Check.says("UNKNOWN; OUTSIDE.");
        PouredTopmost x = Check.standing("1:12-/9:3/9/9");
        for (int glass : new int[] {Integer.MIN_VALUE, -1, 4, 9, Integer.MAX_VALUE}) {
            Check.refused(x, "glass " + glass, () -> x.in(glass, 0), Check.UNKNOWN);
            Check.refused(x, "glass goes first", () -> x.in(glass, 2), Check.UNKNOWN);
        }
        for (int part : new int[] {Integer.MIN_VALUE, -1, 2, Integer.MAX_VALUE}) {
            Check.refused(x, "part " + part, () -> x.in(3, part), Check.OUTSIDE);
        }
    }

    private static void allSpiltAndTogether() {
        Check.says("What was SPILT (what = 0), is in all GLASSES together (1).");
        PouredTopmost x = Check.standing("1:12-/1/c1");
        Check.ofAll(x, 0, 0, 1);
        Check.ofAll(x, 1, 0, 1);
        x.pour(0, 3);
        Check.ofAll(x, 0, 4, 3);
        Check.ofAll(x, 1, 5, 3);
        x.drink(0);
        Check.ofAll(x, 0, 4, 3);
        Check.ofAll(x, 1, 2, 3);
        x.drink(1);
        Check.ofAll(x, 0, 4, 3);
        Check.ofAll(x, 1, 0, 1);
        PouredTopmost nine = Check.standing("9/9/9/9/9/9/9/9/9");
        for (int glass = 0; glass < 9; glass++) {
            nine.pour(glass, 9);
        }
        Check.ofAll(nine, 1, 81, 1);
    }

    private static void allWithoutATower() {
        Check.says("OUTSIDE: what, part.");
        PouredTopmost x = new PouredTopmost();
        Check.ofAll(x, 0, 0, 1);
        Check.ofAll(x, 1, 0, 1);
        Check.due("what", x.all(2, 0), Check.OUTSIDE);
        Check.due("part", x.all(0, 2), Check.OUTSIDE);
    }

    private static void allRefused() {
        Check.says("OUTSIDE: what, part.");
        PouredTopmost x = Check.standing("1:12-/1/c1");
        for (int number : new int[] {Integer.MIN_VALUE, -1, 2, Integer.MAX_VALUE}) {
            Check.refused(x, "what " + number, () -> x.all(number, 0), Check.OUTSIDE);
            Check.refused(x, "what " + number, () -> x.all(number, 1), Check.OUTSIDE);
            Check.refused(x, "part " + number, () -> x.all(0, number), Check.OUTSIDE);
            Check.refused(x, "part " + number, () -> x.all(1, number), Check.OUTSIDE);
            Check.refused(x, "both " + number, () -> x.all(number, number), Check.OUTSIDE);
        }
    }

    // ---- promises 11 and 12

    private static void drinkWhetherAny() {
        Check.says("DRINKING: whether there was any (1, 0).");
        PouredTopmost x = Check.standing("2:12-/3/k3/c1");
        Check.refused(x, "nothing there", () -> x.drink(0), 0);
        x.pour(0, 3);
        Check.due("a third", x.drink(1), 1);
        Check.inGlass(x, 1, 0, 1);
        Check.refused(x, "nothing more", () -> x.drink(1), 0);
        Check.refused(x, "corked", () -> x.drink(2), 0);
        Check.refused(x, "chipped, of one", () -> x.drink(3), 0);
        Check.due("a full one", x.drink(0), 1);
        Check.due("once more", x.drink(0), 0);
    }

    private static void drinkStuck() {
        Check.says("STATE: it is STUCK.");
        PouredTopmost x = Check.standing("s1:1/2/s2");
        Check.refused(x, "stuck", () -> x.drink(0), Check.STATE);
        x.pour(0, 2);
        Check.refused(x, "run through", () -> x.drink(0), Check.STATE);
        Check.refused(x, "the last", () -> x.drink(2), Check.STATE);
        Check.due("not stuck", x.drink(1), 1);
    }

    private static void drinkRefused() {
        Check.says("UNKNOWN; STATE: it is STUCK.");
        PouredTopmost x = Check.standing("2:1/s3");
        for (int glass : new int[] {Integer.MIN_VALUE, -1, 2, 9, Integer.MAX_VALUE}) {
            Check.refused(x, "glass " + glass, () -> x.drink(glass), Check.UNKNOWN);
        }
        // Of another tower, with more glasses, nothing is left to be named.
        PouredTopmost y = Check.standing("1/1/s1");
        Check.write(y, "1/1");
        y.tower();
        Check.refused(y, "it was stuck", () -> y.drink(2), Check.UNKNOWN);
    }

    private static void drunkSoFar() {
        Check.says("What was DRUNK from a GLASS so far.");
        PouredTopmost x = Check.standing("1:12-/2/9");
        Check.drunkFrom(x, 1, 0, 1);
        x.pour(0, 2);
        x.drink(1);
        Check.drunkFrom(x, 1, 1, 3);
        x.drink(1);
        Check.drunkFrom(x, 1, 1, 3);
        x.pour(0, 1);
        x.drink(1);
        Check.drunkFrom(x, 1, 2, 3);
        x.pour(0, 1);
        x.drink(1);
        Check.drunkFrom(x, 1, 1, 1);
        Check.drunkFrom(x, 0, 0, 1);
        Check.drunkFrom(x, 2, 0, 1);
    }

    private static void drunkOfNothing() {
        Check.says("What was DRUNK from a GLASS so far.");
        PouredTopmost x = Check.standing("s1:1/k1:2/c1/9");
        x.pour(0, 9);
        x.drink(0);
        x.drink(1);
        x.drink(2);
        for (int glass = 0; glass < 4; glass++) {
            Check.drunkFrom(x, glass, 0, 1);
        }
        x.drink(3);
        Check.drunkFrom(x, 3, 0, 1);
    }

    private static void drunkRefused() {
        Check.says("UNKNOWN; OUTSIDE.");
        PouredTopmost x = Check.standing("1:12-/2/s2");
        for (int glass : new int[] {Integer.MIN_VALUE, -1, 3, 9, Integer.MAX_VALUE}) {
            Check.refused(x, "glass " + glass, () -> x.drunk(glass, 0), Check.UNKNOWN);
            Check.refused(x, "glass goes first", () -> x.drunk(glass, 2), Check.UNKNOWN);
        }
        for (int part : new int[] {Integer.MIN_VALUE, -1, 2, Integer.MAX_VALUE}) {
            Check.refused(x, "part " + part, () -> x.drunk(2, part), Check.OUTSIDE);
        }
    }

    // ---- promise 13

    private static void clearIsNothing() {
        Check.says("All GLASSES are empty; SPILT, DRUNK, POURED are nothing: how many measures were POURED.");
        PouredTopmost x = Check.standing("1:1-/2");
        long fresh = x.digest();
        x.pour(0, 7);
        x.drink(0);
        Check.due("clear", x.clear(), 7);
        Check.due("all is as at first", x.digest(), fresh);
        Check.due("again", x.clear(), 0);
        Check.inGlass(x, 1, 0, 1);
        Check.drunkFrom(x, 0, 0, 1);
        Check.ofAll(x, 0, 0, 1);
        Check.ofAll(x, 1, 0, 1);
        Check.due("poured", x.count(1), 0);
    }

    private static void clearLeavesTheRest() {
        Check.says("All GLASSES are empty; SPILT, DRUNK, POURED are nothing");
        PouredTopmost x = Check.standing("1:1-/2");
        x.pour(0, 5);
        x.image();
        x.turn(1, 3);
        x.change(4, 0);
        Check.write(x, "4");
        x.clear();
        int[] due = {2, 0, 0, 1, 1, 1};
        for (int what = 0; what < due.length; what++) {
            Check.due("count " + what, x.count(what), due[what]);
        }
        Check.due("turn", x.about(1, 7), 3);
        Check.due("the image stays", x.restore(), 5);
        Check.inGlass(x, 1, 2, 1);
    }

    private static void clearWithoutATower() {
        Check.says("how many measures were POURED");
        PouredTopmost x = Check.written("1:");
        Check.refused(x, "none", x::clear, 0);
        Check.due("the page stays", x.count(3), 2);
    }
}
